/-! Edits: addPoint, removePoint. -/
theorem ok_34 : SOK q_34 := by
  intro u z h
  obtain ⟨a, hO, ⟨⟨hc, hd, hm, hw, hx, hy⟩, ⟨hv, ho, hwt⟩⟩, ⟨s0, s1, s2, tx, ty, tw⟩⟩ := h.1
  have O := hO
  obtain ⟨h0, h5, m0, m1, d0, d1, hr, hry, hrw, hi⟩ := O
  have hbw := hO.bw
  obtain ⟨x, x0, x1, hu⟩ := ex3 (u 1)
  obtain ⟨y, y0, y1, hu2⟩ := ex3 (u 2)
  obtain ⟨w, w0, w1, hu3⟩ := ex3 (u 3)
  unfold q_34
  rw [hu, hu2, hu3]
  have n9 : (9 : Int32) = z3 9 := rfl
  have n20 : (20 : Int32) = z3 20 := rfl
  obtain ⟨g2, f2⟩ := s2c s2
  have pw : (∃ k, 0 ≤ k ∧ k < zC a ∧ mX7_pointWith (a7_s z.2.1) (z3 x) = some (z3 k)) ∨ mX7_pointWith (a7_s z.2.1) (z3 x) = some (-1) := by
    by_cases c2 : ∃ k, 0 ≤ k ∧ k < zC a ∧ zX a k = x
    · obtain ⟨k, k0, k1, ke⟩ := c2
      exact Or.inl ⟨k, k0, k1, find7_y h0 h5 s2 tx hr hi k0 k1 ke⟩
    · exact Or.inr (find7_n h0 h5 s2 tx hr (fun k k0 k1 e => c2 ⟨k, k0, k1, e⟩) x0 x1)
  by_cases c1 : -9 ≤ x ∧ x ≤ 9
  · by_cases c2 : -20 ≤ y ∧ y ≤ 20
    · by_cases c3 : -9 ≤ w ∧ w ≤ 9
      · have F3 := free3 h0 h5 hx hr hi (x := -1) (by omega) (by omega) x0 x1
        rw [← hc] at F3
        have F3 : (Fre (zC a) (zX a) (-1) x → mX3_isFreeFor (a6_present_nodes_count z.1) (a6_present_nodes_xs z.1) (-1) (z3 x) = some 1) ∧ (¬ Fre (zC a) (zX a) (-1) x → mX3_isFreeFor (a6_present_nodes_count z.1) (a6_present_nodes_xs z.1) (-1) (z3 x) = some 0) := F3
        by_cases c4 : Fre (zC a) (zX a) (-1) x
        · have pn : mX7_pointWith (a7_s z.2.1) (z3 x) = some (-1) := find7_n h0 h5 s2 tx hr (fun k k0 k1 => c4 k k0 k1 (by omega)) x0 x1
          by_cases c5 : zC a < 5
          · obtain ⟨hc1, kc1, kd1, km1, kw1, kx1, ky1, ed1, hi1, R3, R7, hJ1⟩ := rememb h.2.1 hO ⟨hc, hd, hm, hw, hx, hy⟩ ⟨s0, s1, s2, tx, ty, tw⟩
            have hO9 : OkZ (zC a + 1, zM a, zD a, uz (zX a) (zC a) x, uz (zY a) (zC a) y, uz (zW a) (zC a) w) := ⟨by show 0 ≤ zC a + 1; omega, by show zC a + 1 ≤ 5; omega, m0, m1, d0, d1, hr.a c1.1 c1.2, hry.a c2.1 c2.2, hrw.a c3.1 c3.2, hi.a c4⟩
            obtain ⟨a9, ea9⟩ : ∃ a9 : AZ, a9 = (zC a + 1, zM a, zD a, uz (zX a) (zC a) x, uz (zY a) (zC a) y, uz (zW a) (zC a) w) := ⟨_, rfl⟩
            rw [← ea9] at hO9
            have hx' := hx.a (v := x) (Int.le_refl 0) h0
            have hy' := hy.a (v := y) (Int.le_refl 0) h0
            have hw' := hw.a (v := w) (Int.le_refl 0) h0
            rw [show (0 : Int) + zC a = zC a by omega] at hx' hy' hw'
            have hN3 : N3 a9 (z3 (zC a + 1)) (a6_present_nodes_degree z.1) (a6_present_nodes_mode z.1) (upd (a6_present_nodes_ws z.1) (zC a).toNat (z3 w)) (upd (a6_present_nodes_xs z.1) (zC a).toNat (z3 x)) (upd (a6_present_nodes_ys z.1) (zC a).toNat (z3 y)) := by
              rw [ea9]
              exact ⟨rfl, hd, hm, hw', hx', hy'⟩
            obtain ⟨sA, esA⟩ : ∃ sA, sA = upd (upd (upd (a7_s z.2.1) (3 + zC a).toNat (z3 x)) (8 + zC a).toNat (z3 y)) (13 + zC a).toNat (z3 w) := ⟨_, rfl⟩
            have eA2 : sA 2 = z3 (zC a) := by
              rw [esA, upd_n (by omega), upd_n (by omega), upd_n (by omega)]
              exact s2
            have hN7' : N7 a9 (upd sA 2 (z3 (zC a + 1))) := by
              rw [ea9, esA]
              refine ⟨?_, ?_, rfl, ?_, ?_, ?_⟩
              · rw [upd_n (by omega), upd_n (by omega), upd_n (by omega), upd_n (by omega)]
                exact s0
              · rw [upd_n (by omega), upd_n (by omega), upd_n (by omega), upd_n (by omega)]
                exact s1
              · exact (((tx.a (v := x) (by omega) h0).o _ (fun k k0 k1 => by omega)).o _ (fun k k0 k1 => by omega)).o _ (fun k k0 k1 => by omega)
              · exact (((ty.o _ (fun k k0 k1 => by omega)).a (v := y) (by omega) h0).o _ (fun k k0 k1 => by omega)).o _ (fun k k0 k1 => by omega)
              · exact ((((tw.o _ (fun k k0 k1 => by omega)).o _ (fun k k0 k1 => by omega)).a (v := w) (by omega) h0)).o _ (fun k k0 k1 => by omega)
            clear s1
            obtain ⟨s1, es1⟩ : ∃ s1, s1 = upd sA 2 (z3 (zC a + 1)) := ⟨_, rfl⟩
            rw [← es1] at hN7'
            have hN7 := hN7'
            obtain ⟨den1, num1, or1, pr1, so1, wt1, RK, hCv⟩ := reckon3 hO9 hN3 (a6_present_denominator z.1) (a6_present_numerator z.1) (a6_present_order z.1) (a6_present_product z.1) (a6_present_sorted z.1) (a6_present_weights z.1)
            have AP : mX3_append (a6_present_nodes_count z.1) (a6_present_nodes_ws z.1) (a6_present_nodes_xs z.1) (a6_present_nodes_ys z.1) (z3 x) (z3 y) (z3 w) = some (z3 (zC a + 1), upd (a6_present_nodes_ws z.1) (zC a).toNat (z3 w), upd (a6_present_nodes_xs z.1) (zC a).toNat (z3 x), upd (a6_present_nodes_ys z.1) (zC a).toNat (z3 y)) := by
              unfold mX3_append mX3_isFull
              rw [hc, if_pos (by rw [l3_5]; exact (z3lt (by omega) (by omega) (by omega) (by omega)).2 c5), Option.bind_some, if_pos rfl, l3_1, z3a, z3s, show zC a + 1 - 1 = zC a by omega, putX3 _ h0 c5, Option.bind_some, putY3 _ h0 c5, Option.bind_some, putW3 _ h0 c5]
              rfl
            have IF : mX3_isFull (a6_present_nodes_count z.1) = some 0 := by
              unfold mX3_isFull
              rw [hc, if_pos (by rw [l3_5]; exact (z3lt (by omega) (by omega) (by omega) (by omega)).2 c5)]
            have v5 : ¬ (5 : Int32) ≤ z3 (zC a) := fun q => by have := (z3le (by omega) (by omega) (by omega) (by omega)).1 (l3_5 ▸ q); omega
            have t3 : (3 : Int32) + z3 (zC a) = z3 (3 + zC a) := by rw [l3_3, z3a]
            have t8 : (8 : Int32) + z3 (zC a) = z3 (8 + zC a) := by rw [l3_8, z3a]
            have t13 : (13 : Int32) + z3 (zC a) = z3 (13 + zC a) := by rw [l3_13, z3a]
            have nt2 : Int32.toNatClampNeg 2 = 2 := by decide
            have rr : z3 (zC a + 1) - 1 = z3 (zC a) := by rw [l3_1, z3s, show zC a + 1 - 1 = zC a by omega]
            have m6 : mX6_addPoint (a6_history_count z.1) (a6_history_kept_E_count z.1) (a6_history_kept_E_degree z.1) (a6_history_kept_E_mode z.1) (a6_history_kept_E_ws z.1) (a6_history_kept_E_xs z.1) (a6_history_kept_E_ys z.1) (a6_present_denominator z.1) (a6_present_nodes_count z.1) (a6_present_nodes_degree z.1) (a6_present_nodes_mode z.1) (a6_present_nodes_ws z.1) (a6_present_nodes_xs z.1) (a6_present_nodes_ys z.1) (a6_present_numerator z.1) (a6_present_order z.1) (a6_present_product z.1) (a6_present_sorted z.1) (a6_present_weights z.1) (z3 x) (z3 y) (z3 w) = some (0, z3 (zC a), hc1, kc1, kd1, km1, kw1, kx1, ky1, den1, z3 (zC a + 1), upd (a6_present_nodes_ws z.1) (zC a).toNat (z3 w), upd (a6_present_nodes_xs z.1) (zC a).toNat (z3 x), upd (a6_present_nodes_ys z.1) (zC a).toNat (z3 y), num1, or1, pr1, so1, wt1) := by
              unfold mX6_addPoint mX6_needFree mX3_size
              rw [n9, n20, nw_y c1 x0 x1 (by omega) (by omega), Option.bind_some, if_pos rfl, nw_y c2 y0 y1 (by omega) (by omega), Option.bind_some, if_pos rfl, nw_y c3 w0 w1 (by omega) (by omega), Option.bind_some, if_pos rfl, F3.1 c4, Option.bind_some, if_neg n10, Option.bind_some, if_pos rfl, IF, Option.bind_some, if_pos rfl, R3, Option.bind_some, AP, Option.bind_some, RK, Option.bind_some, Option.bind_some, rr]
            have m7 : mX7_addPoint (a7_edits z.2.1) (a7_history z.2.1) (a7_s z.2.1) (a7_thrown z.2.1) (z3 x) (z3 y) (z3 w) = some (z3 (zC a), ed1, hi1, s1, 0) := by
              unfold mX7_addPoint
              rw [iX_y c1 x0 x1, Option.bind_some, if_neg n10, iY_y c2 y0 y1, Option.bind_some, if_neg n10, iW_y c3 w0 w1, Option.bind_some, if_neg n10, pn, Option.bind_some, if_pos rfl, if_neg g2, f2, if_neg v5, g2_11, Option.bind_some, if_neg n10, R7, Option.bind_some, if_neg g2, t3, t8, t13, if_neg (gix (by omega) (by omega) (by decide)), if_neg (gix (by omega) (by omega) (by decide)), if_neg (gix (by omega) (by omega) (by decide)), if_neg g2, if_neg g2, z3nat (by omega) (by omega), z3nat (by omega) (by omega), z3nat (by omega) (by omega), ← esA, nt2, eA2, l3_1, z3a, ← es1]
            have E6 : ∃ σ1 o1, h_addPoint z.1 (z3 x) (z3 y) (z3 w) z.2.2.1 = some (0, σ1, o1) ∧ o1 = vp_updL z.2.2.1 0 (Int32.toInt64 (z3 (zC a))) ∧ ∀ τ1, JH hc1 kc1 km1 kd1 kw1 kx1 ky1 (a7_edits τ1) (a7_history τ1) → N7 a9 (a7_s τ1) → JB (a6_text_filled z.1) (a7_buffered τ1) (a6_text_bytes z.1) (a7_buffer τ1) → (a6_text_faultKind z.1 = a7_errorKind τ1 ∧ a6_text_faultPosition z.1 = a7_errorPosition τ1) → JO (a6_output_count z.1) (a7_outputLength τ1) (a6_output_signs z.1) (a7_output τ1) → JZ σ1 τ1 := by
              apply Exists.intro
              apply Exists.intro
              refine ⟨?_, ?_, ?_⟩
              · unfold h_addPoint s6_addPoint
                rw [m6]
                rfl
              · rfl
              · exact fun τ1 x1 x2 x3 x4 x5 => ⟨⟨a9, hO9, ⟨hN3, hCv⟩, x2⟩, x1, x3, x4, x5⟩
            have E7 : ∃ v1 τ1, s7_addPoint z.2.1 (z3 x) (z3 y) (z3 w) = some (v1, τ1) ∧ a7_thrown τ1 = 0 ∧ (Int32.toInt64 (z3 (zC a))) = (Int32.toInt64) v1 ∧ a7_edits τ1 = ed1 ∧ a7_history τ1 = hi1 ∧ a7_s τ1 = s1 ∧ a7_buffered τ1 = a7_buffered z.2.1 ∧ a7_buffer τ1 = a7_buffer z.2.1 ∧ a7_errorKind τ1 = a7_errorKind z.2.1 ∧ a7_errorPosition τ1 = a7_errorPosition z.2.1 ∧ a7_outputLength τ1 = a7_outputLength z.2.1 ∧ a7_output τ1 = a7_output z.2.1 := by
              apply Exists.intro
              apply Exists.intro
              refine ⟨?_, ?_, ?_, ?_⟩
              · unfold s7_addPoint
                rw [m7]
                rfl
              · rfl
              · rfl
              · exact ⟨rfl, rfl, rfl, rfl, rfl, rfl, rfl, rfl, rfl⟩
            obtain ⟨σ1, o1, f6, v6, j6⟩ := E6
            obtain ⟨w1, τ1, f7, t7, v7, i1, i2, i3, i4, i5, i6, i7, i8, i9⟩ := E7
            refine fin1 (Int32.toInt64) f6 f7 t7 (fun _ => by rw [v6, updL_s]; exact v7) (j6 τ1 ?_ ?_ ?_ ?_ ?_)
            · rw [i1, i2]
              exact hJ1
            · rw [i3]
              exact hN7
            · rw [i4, i5]
              exact h.2.2.1
            · rw [i6, i7]
              exact h.2.2.2.1
            · rw [i8, i9]
              exact h.2.2.2.2
          · have v5 : (5 : Int32) ≤ z3 (zC a) := by rw [l3_5]; exact (z3le (by omega) (by omega) (by omega) (by omega)).2 (by omega)
            have IF : mX3_isFull (a6_present_nodes_count z.1) = some 1 := by
              unfold mX3_isFull
              rw [hc, if_neg (fun q => by have := (z3lt (by omega) (by omega) (by omega) (by omega)).1 (l3_5 ▸ q); omega)]
            have m6 : mX6_addPoint (a6_history_count z.1) (a6_history_kept_E_count z.1) (a6_history_kept_E_degree z.1) (a6_history_kept_E_mode z.1) (a6_history_kept_E_ws z.1) (a6_history_kept_E_xs z.1) (a6_history_kept_E_ys z.1) (a6_present_denominator z.1) (a6_present_nodes_count z.1) (a6_present_nodes_degree z.1) (a6_present_nodes_mode z.1) (a6_present_nodes_ws z.1) (a6_present_nodes_xs z.1) (a6_present_nodes_ys z.1) (a6_present_numerator z.1) (a6_present_order z.1) (a6_present_product z.1) (a6_present_sorted z.1) (a6_present_weights z.1) (z3 x) (z3 y) (z3 w) = some (3, 0, a6_history_count z.1, a6_history_kept_E_count z.1, a6_history_kept_E_degree z.1, a6_history_kept_E_mode z.1, a6_history_kept_E_ws z.1, a6_history_kept_E_xs z.1, a6_history_kept_E_ys z.1, a6_present_denominator z.1, a6_present_nodes_count z.1, a6_present_nodes_ws z.1, a6_present_nodes_xs z.1, a6_present_nodes_ys z.1, a6_present_numerator z.1, a6_present_order z.1, a6_present_product z.1, a6_present_sorted z.1, a6_present_weights z.1) := by
              unfold mX6_addPoint mX6_needFree
              rw [n9, n20, nw_y c1 x0 x1 (by omega) (by omega), Option.bind_some, if_pos rfl, nw_y c2 y0 y1 (by omega) (by omega), Option.bind_some, if_pos rfl, nw_y c3 w0 w1 (by omega) (by omega), Option.bind_some, if_pos rfl, F3.1 c4, Option.bind_some, if_neg n10, Option.bind_some, if_pos rfl, IF]
              rfl
            have m7 : mX7_addPoint (a7_edits z.2.1) (a7_history z.2.1) (a7_s z.2.1) (a7_thrown z.2.1) (z3 x) (z3 y) (z3 w) = some (0, a7_edits z.2.1, a7_history z.2.1, a7_s z.2.1, 2) := by
              unfold mX7_addPoint
              rw [iX_y c1 x0 x1, Option.bind_some, if_neg n10, iY_y c2 y0 y1, Option.bind_some, if_neg n10, iW_y c3 w0 w1, Option.bind_some, if_neg n10, pn, Option.bind_some, if_pos rfl, if_neg g2, f2, if_pos v5]
              rfl
            have E6 : ∃ σ1 o1, h_addPoint z.1 (z3 x) (z3 y) (z3 w) z.2.2.1 = some (2, σ1, o1) ∧ (o1 0 = o1 0) ∧ ((2 : Int32) = 0 → o1 = vp_updL z.2.2.1 0 (0)) ∧ ∀ τ, JZ z.1 τ → JZ σ1 τ := by
              apply Exists.intro
              apply Exists.intro
              refine ⟨?_, rfl, ?_, ?_⟩
              · unfold h_addPoint s6_addPoint
                rw [m6]
                rfl
              · exact fun w => absurd w (by decide)
              · exact fun τ h => h
            have E7 : ∃ v1 τ1, s7_addPoint z.2.1 (z3 x) (z3 y) (z3 w) = some (v1, τ1) ∧ a7_thrown τ1 = 2 ∧ ((2 : Int32) = 0 → (0) = (Int32.toInt64) v1) ∧ ∀ σ, JZ σ z.2.1 → JZ σ τ1 := by
              apply Exists.intro
              apply Exists.intro
              refine ⟨?_, ?_, ?_, ?_⟩
              · unfold s7_addPoint
                rw [m7]
                rfl
              · rfl
              · exact fun w => absurd w (by decide)
              · exact fun σ h => h
            obtain ⟨σ1, o1, e6, -, v6, j6⟩ := E6
            obtain ⟨w1, τ1, e7, t7, v7, j7⟩ := E7
            exact fin1 (Int32.toInt64) e6 e7 t7 (fun w => by rw [v6 w, updL_s]; exact v7 w) (j7 _ (j6 _ h))
        · have py : ∃ k, 0 ≤ k ∧ k < zC a ∧ mX7_pointWith (a7_s z.2.1) (z3 x) = some (z3 k) := by
            by_cases c2 : ∃ k, 0 ≤ k ∧ k < zC a ∧ zX a k = x
            · obtain ⟨k, k0, k1, ke⟩ := c2
              exact ⟨k, k0, k1, find7_y h0 h5 s2 tx hr hi k0 k1 ke⟩
            · exact absurd (fun k k0 k1 _ e => c2 ⟨k, k0, k1, e⟩) c4
          obtain ⟨k, k0, k1, pk⟩ := py
          have m6 : mX6_addPoint (a6_history_count z.1) (a6_history_kept_E_count z.1) (a6_history_kept_E_degree z.1) (a6_history_kept_E_mode z.1) (a6_history_kept_E_ws z.1) (a6_history_kept_E_xs z.1) (a6_history_kept_E_ys z.1) (a6_present_denominator z.1) (a6_present_nodes_count z.1) (a6_present_nodes_degree z.1) (a6_present_nodes_mode z.1) (a6_present_nodes_ws z.1) (a6_present_nodes_xs z.1) (a6_present_nodes_ys z.1) (a6_present_numerator z.1) (a6_present_order z.1) (a6_present_product z.1) (a6_present_sorted z.1) (a6_present_weights z.1) (z3 x) (z3 y) (z3 w) = some (3, 0, a6_history_count z.1, a6_history_kept_E_count z.1, a6_history_kept_E_degree z.1, a6_history_kept_E_mode z.1, a6_history_kept_E_ws z.1, a6_history_kept_E_xs z.1, a6_history_kept_E_ys z.1, a6_present_denominator z.1, a6_present_nodes_count z.1, a6_present_nodes_ws z.1, a6_present_nodes_xs z.1, a6_present_nodes_ys z.1, a6_present_numerator z.1, a6_present_order z.1, a6_present_product z.1, a6_present_sorted z.1, a6_present_weights z.1) := by
            unfold mX6_addPoint mX6_needFree
            rw [n9, n20, nw_y c1 x0 x1 (by omega) (by omega), Option.bind_some, if_pos rfl, nw_y c2 y0 y1 (by omega) (by omega), Option.bind_some, if_pos rfl, nw_y c3 w0 w1 (by omega) (by omega), Option.bind_some, if_pos rfl, F3.2 c4]
            rfl
          have m7 : mX7_addPoint (a7_edits z.2.1) (a7_history z.2.1) (a7_s z.2.1) (a7_thrown z.2.1) (z3 x) (z3 y) (z3 w) = some (0, a7_edits z.2.1, a7_history z.2.1, a7_s z.2.1, 2) := by
            unfold mX7_addPoint
            rw [iX_y c1 x0 x1, Option.bind_some, if_neg n10, iY_y c2 y0 y1, Option.bind_some, if_neg n10, iW_y c3 w0 w1, Option.bind_some, if_neg n10, pk, Option.bind_some, if_neg (z3m1 k0 (by omega))]
            rfl
          have E6 : ∃ σ1 o1, h_addPoint z.1 (z3 x) (z3 y) (z3 w) z.2.2.1 = some (2, σ1, o1) ∧ (o1 0 = o1 0) ∧ ((2 : Int32) = 0 → o1 = vp_updL z.2.2.1 0 (0)) ∧ ∀ τ, JZ z.1 τ → JZ σ1 τ := by
            apply Exists.intro
            apply Exists.intro
            refine ⟨?_, rfl, ?_, ?_⟩
            · unfold h_addPoint s6_addPoint
              rw [m6]
              rfl
            · exact fun w => absurd w (by decide)
            · exact fun τ h => h
          have E7 : ∃ v1 τ1, s7_addPoint z.2.1 (z3 x) (z3 y) (z3 w) = some (v1, τ1) ∧ a7_thrown τ1 = 2 ∧ ((2 : Int32) = 0 → (0) = (Int32.toInt64) v1) ∧ ∀ σ, JZ σ z.2.1 → JZ σ τ1 := by
            apply Exists.intro
            apply Exists.intro
            refine ⟨?_, ?_, ?_, ?_⟩
            · unfold s7_addPoint
              rw [m7]
              rfl
            · rfl
            · exact fun w => absurd w (by decide)
            · exact fun σ h => h
          obtain ⟨σ1, o1, e6, -, v6, j6⟩ := E6
          obtain ⟨w1, τ1, e7, t7, v7, j7⟩ := E7
          exact fin1 (Int32.toInt64) e6 e7 t7 (fun w => by rw [v6 w, updL_s]; exact v7 w) (j7 _ (j6 _ h))
      · have m6 : mX6_addPoint (a6_history_count z.1) (a6_history_kept_E_count z.1) (a6_history_kept_E_degree z.1) (a6_history_kept_E_mode z.1) (a6_history_kept_E_ws z.1) (a6_history_kept_E_xs z.1) (a6_history_kept_E_ys z.1) (a6_present_denominator z.1) (a6_present_nodes_count z.1) (a6_present_nodes_degree z.1) (a6_present_nodes_mode z.1) (a6_present_nodes_ws z.1) (a6_present_nodes_xs z.1) (a6_present_nodes_ys z.1) (a6_present_numerator z.1) (a6_present_order z.1) (a6_present_product z.1) (a6_present_sorted z.1) (a6_present_weights z.1) (z3 x) (z3 y) (z3 w) = some (2, 0, a6_history_count z.1, a6_history_kept_E_count z.1, a6_history_kept_E_degree z.1, a6_history_kept_E_mode z.1, a6_history_kept_E_ws z.1, a6_history_kept_E_xs z.1, a6_history_kept_E_ys z.1, a6_present_denominator z.1, a6_present_nodes_count z.1, a6_present_nodes_ws z.1, a6_present_nodes_xs z.1, a6_present_nodes_ys z.1, a6_present_numerator z.1, a6_present_order z.1, a6_present_product z.1, a6_present_sorted z.1, a6_present_weights z.1) := by
          unfold mX6_addPoint
          rw [n9, n20, nw_y c1 x0 x1 (by omega) (by omega), Option.bind_some, if_pos rfl, nw_y c2 y0 y1 (by omega) (by omega), Option.bind_some, if_pos rfl, nw_n c3 w0 w1 (by omega) (by omega)]
          rfl
        have m7 : mX7_addPoint (a7_edits z.2.1) (a7_history z.2.1) (a7_s z.2.1) (a7_thrown z.2.1) (z3 x) (z3 y) (z3 w) = some (0, a7_edits z.2.1, a7_history z.2.1, a7_s z.2.1, 1) := by
          unfold mX7_addPoint
          rw [iX_y c1 x0 x1, Option.bind_some, if_neg n10, iY_y c2 y0 y1, Option.bind_some, if_neg n10, iW_n c3 w0 w1, Option.bind_some, if_pos rfl]
          rcases pw with ⟨k, k0, k1, e⟩ | e
          · rw [e, Option.bind_some, if_neg (z3m1 k0 (by omega))]; rfl
          · rw [e, Option.bind_some, if_pos rfl, if_neg g2]; (by_cases q : (5 : Int32) ≤ a7_s z.2.1 (Int32.toNatClampNeg 2)) <;> first | (rw [if_pos q]; rfl) | (rw [if_neg q]; rfl)
        have E6 : ∃ σ1 o1, h_addPoint z.1 (z3 x) (z3 y) (z3 w) z.2.2.1 = some (1, σ1, o1) ∧ (o1 0 = o1 0) ∧ ((1 : Int32) = 0 → o1 = vp_updL z.2.2.1 0 (0)) ∧ ∀ τ, JZ z.1 τ → JZ σ1 τ := by
          apply Exists.intro
          apply Exists.intro
          refine ⟨?_, rfl, ?_, ?_⟩
          · unfold h_addPoint s6_addPoint
            rw [m6]
            rfl
          · exact fun w => absurd w (by decide)
          · exact fun τ h => h
        have E7 : ∃ v1 τ1, s7_addPoint z.2.1 (z3 x) (z3 y) (z3 w) = some (v1, τ1) ∧ a7_thrown τ1 = 1 ∧ ((1 : Int32) = 0 → (0) = (Int32.toInt64) v1) ∧ ∀ σ, JZ σ z.2.1 → JZ σ τ1 := by
          apply Exists.intro
          apply Exists.intro
          refine ⟨?_, ?_, ?_, ?_⟩
          · unfold s7_addPoint
            rw [m7]
            rfl
          · rfl
          · exact fun w => absurd w (by decide)
          · exact fun σ h => h
        obtain ⟨σ1, o1, e6, -, v6, j6⟩ := E6
        obtain ⟨w1, τ1, e7, t7, v7, j7⟩ := E7
        exact fin1 (Int32.toInt64) e6 e7 t7 (fun w => by rw [v6 w, updL_s]; exact v7 w) (j7 _ (j6 _ h))
    · have m6 : mX6_addPoint (a6_history_count z.1) (a6_history_kept_E_count z.1) (a6_history_kept_E_degree z.1) (a6_history_kept_E_mode z.1) (a6_history_kept_E_ws z.1) (a6_history_kept_E_xs z.1) (a6_history_kept_E_ys z.1) (a6_present_denominator z.1) (a6_present_nodes_count z.1) (a6_present_nodes_degree z.1) (a6_present_nodes_mode z.1) (a6_present_nodes_ws z.1) (a6_present_nodes_xs z.1) (a6_present_nodes_ys z.1) (a6_present_numerator z.1) (a6_present_order z.1) (a6_present_product z.1) (a6_present_sorted z.1) (a6_present_weights z.1) (z3 x) (z3 y) (z3 w) = some (2, 0, a6_history_count z.1, a6_history_kept_E_count z.1, a6_history_kept_E_degree z.1, a6_history_kept_E_mode z.1, a6_history_kept_E_ws z.1, a6_history_kept_E_xs z.1, a6_history_kept_E_ys z.1, a6_present_denominator z.1, a6_present_nodes_count z.1, a6_present_nodes_ws z.1, a6_present_nodes_xs z.1, a6_present_nodes_ys z.1, a6_present_numerator z.1, a6_present_order z.1, a6_present_product z.1, a6_present_sorted z.1, a6_present_weights z.1) := by
        unfold mX6_addPoint
        rw [n9, n20, nw_y c1 x0 x1 (by omega) (by omega), Option.bind_some, if_pos rfl, nw_n c2 y0 y1 (by omega) (by omega)]
        rfl
      have m7 : mX7_addPoint (a7_edits z.2.1) (a7_history z.2.1) (a7_s z.2.1) (a7_thrown z.2.1) (z3 x) (z3 y) (z3 w) = some (0, a7_edits z.2.1, a7_history z.2.1, a7_s z.2.1, 1) := by
        unfold mX7_addPoint
        rw [iX_y c1 x0 x1, Option.bind_some, if_neg n10, iY_n c2 y0 y1, Option.bind_some, if_pos rfl]
        rcases pw with ⟨k, k0, k1, e⟩ | e
        · rw [e, Option.bind_some, if_neg (z3m1 k0 (by omega))]; rfl
        · rw [e, Option.bind_some, if_pos rfl, if_neg g2]; (by_cases q : (5 : Int32) ≤ a7_s z.2.1 (Int32.toNatClampNeg 2)) <;> first | (rw [if_pos q]; rfl) | (rw [if_neg q]; rfl)
      have E6 : ∃ σ1 o1, h_addPoint z.1 (z3 x) (z3 y) (z3 w) z.2.2.1 = some (1, σ1, o1) ∧ (o1 0 = o1 0) ∧ ((1 : Int32) = 0 → o1 = vp_updL z.2.2.1 0 (0)) ∧ ∀ τ, JZ z.1 τ → JZ σ1 τ := by
        apply Exists.intro
        apply Exists.intro
        refine ⟨?_, rfl, ?_, ?_⟩
        · unfold h_addPoint s6_addPoint
          rw [m6]
          rfl
        · exact fun w => absurd w (by decide)
        · exact fun τ h => h
      have E7 : ∃ v1 τ1, s7_addPoint z.2.1 (z3 x) (z3 y) (z3 w) = some (v1, τ1) ∧ a7_thrown τ1 = 1 ∧ ((1 : Int32) = 0 → (0) = (Int32.toInt64) v1) ∧ ∀ σ, JZ σ z.2.1 → JZ σ τ1 := by
        apply Exists.intro
        apply Exists.intro
        refine ⟨?_, ?_, ?_, ?_⟩
        · unfold s7_addPoint
          rw [m7]
          rfl
        · rfl
        · exact fun w => absurd w (by decide)
        · exact fun σ h => h
      obtain ⟨σ1, o1, e6, -, v6, j6⟩ := E6
      obtain ⟨w1, τ1, e7, t7, v7, j7⟩ := E7
      exact fin1 (Int32.toInt64) e6 e7 t7 (fun w => by rw [v6 w, updL_s]; exact v7 w) (j7 _ (j6 _ h))
  · have m6 : mX6_addPoint (a6_history_count z.1) (a6_history_kept_E_count z.1) (a6_history_kept_E_degree z.1) (a6_history_kept_E_mode z.1) (a6_history_kept_E_ws z.1) (a6_history_kept_E_xs z.1) (a6_history_kept_E_ys z.1) (a6_present_denominator z.1) (a6_present_nodes_count z.1) (a6_present_nodes_degree z.1) (a6_present_nodes_mode z.1) (a6_present_nodes_ws z.1) (a6_present_nodes_xs z.1) (a6_present_nodes_ys z.1) (a6_present_numerator z.1) (a6_present_order z.1) (a6_present_product z.1) (a6_present_sorted z.1) (a6_present_weights z.1) (z3 x) (z3 y) (z3 w) = some (2, 0, a6_history_count z.1, a6_history_kept_E_count z.1, a6_history_kept_E_degree z.1, a6_history_kept_E_mode z.1, a6_history_kept_E_ws z.1, a6_history_kept_E_xs z.1, a6_history_kept_E_ys z.1, a6_present_denominator z.1, a6_present_nodes_count z.1, a6_present_nodes_ws z.1, a6_present_nodes_xs z.1, a6_present_nodes_ys z.1, a6_present_numerator z.1, a6_present_order z.1, a6_present_product z.1, a6_present_sorted z.1, a6_present_weights z.1) := by
      unfold mX6_addPoint
      rw [n9, nw_n c1 x0 x1 (by omega) (by omega)]
      rfl
    have m7 : mX7_addPoint (a7_edits z.2.1) (a7_history z.2.1) (a7_s z.2.1) (a7_thrown z.2.1) (z3 x) (z3 y) (z3 w) = some (0, a7_edits z.2.1, a7_history z.2.1, a7_s z.2.1, 1) := by
      unfold mX7_addPoint
      rw [iX_n c1 x0 x1, Option.bind_some, if_pos rfl]
      rcases pw with ⟨k, k0, k1, e⟩ | e
      · rw [e, Option.bind_some, if_neg (z3m1 k0 (by omega))]; rfl
      · rw [e, Option.bind_some, if_pos rfl, if_neg g2]; (by_cases q : (5 : Int32) ≤ a7_s z.2.1 (Int32.toNatClampNeg 2)) <;> first | (rw [if_pos q]; rfl) | (rw [if_neg q]; rfl)
    have E6 : ∃ σ1 o1, h_addPoint z.1 (z3 x) (z3 y) (z3 w) z.2.2.1 = some (1, σ1, o1) ∧ (o1 0 = o1 0) ∧ ((1 : Int32) = 0 → o1 = vp_updL z.2.2.1 0 (0)) ∧ ∀ τ, JZ z.1 τ → JZ σ1 τ := by
      apply Exists.intro
      apply Exists.intro
      refine ⟨?_, rfl, ?_, ?_⟩
      · unfold h_addPoint s6_addPoint
        rw [m6]
        rfl
      · exact fun w => absurd w (by decide)
      · exact fun τ h => h
    have E7 : ∃ v1 τ1, s7_addPoint z.2.1 (z3 x) (z3 y) (z3 w) = some (v1, τ1) ∧ a7_thrown τ1 = 1 ∧ ((1 : Int32) = 0 → (0) = (Int32.toInt64) v1) ∧ ∀ σ, JZ σ z.2.1 → JZ σ τ1 := by
      apply Exists.intro
      apply Exists.intro
      refine ⟨?_, ?_, ?_, ?_⟩
      · unfold s7_addPoint
        rw [m7]
        rfl
      · rfl
      · exact fun w => absurd w (by decide)
      · exact fun σ h => h
    obtain ⟨σ1, o1, e6, -, v6, j6⟩ := E6
    obtain ⟨w1, τ1, e7, t7, v7, j7⟩ := E7
    exact fin1 (Int32.toInt64) e6 e7 t7 (fun w => by rw [v6 w, updL_s]; exact v7 w) (j7 _ (j6 _ h))
