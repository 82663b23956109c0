/-! valueWithout, point. -/
theorem aside7 (o s : Nat → Int32) : ∃ o1, mX7_putAside o s = some o1 ∧ ∀ i, i < 18 → o1 i = s i := by
  obtain ⟨s1, e1, p1, p2⟩ := runr (fun n j (a : Nat → Int32) => lX7_putAside_2 s n (z3 j) a) (fun j a => 0 ≤ j ∧ (∀ i : Nat, (i : Int) < j → a i = s i)) 18 (fun a => a)
    (fun n j a hj hp => by
      obtain ⟨p1, p2⟩ := hp
      have g := gix (x := j) (n := 18) p1 (by omega) (by decide)
      refine ⟨upd a j.toNat (s j.toNat), ?_, by omega, fun i hi => ?_⟩
      · rw [lX7_putAside_2, if_neg (fun w => by have := (z3le (by omega) (by omega) (by omega) (by omega)).1 (l3_18 ▸ w); omega), if_neg g, if_neg g, z3nat (by omega) (by omega), l3_1, z3a]
      · by_cases w : (i : Int) = j
        · rw [show j.toNat = i by omega, upd_s]
        · rw [upd_n (by omega)]
          exact p2 i (by omega))
    (fun n a hp => by
      rw [lX7_putAside_2, if_pos (by decide)])
    18 FU 0 o (by omega) (by decide) ⟨by omega, fun i hi => by omega⟩
  refine ⟨s1, ?_, fun i hi => p2 i (by omega)⟩
  unfold mX7_putAside
  rw [l3_0, e1]
  rfl
theorem back7 (o s : Nat → Int32) : ∃ s1, mX7_layBack o s = some s1 ∧ ∀ i, i < 18 → s1 i = o i := by
  obtain ⟨s1, e1, p1, p2⟩ := runr (fun n j (a : Nat → Int32) => lX7_layBack_2 o n (z3 j) a) (fun j a => 0 ≤ j ∧ (∀ i : Nat, (i : Int) < j → a i = o i)) 18 (fun a => a)
    (fun n j a hj hp => by
      obtain ⟨p1, p2⟩ := hp
      have g := gix (x := j) (n := 18) p1 (by omega) (by decide)
      refine ⟨upd a j.toNat (o j.toNat), ?_, by omega, fun i hi => ?_⟩
      · rw [lX7_layBack_2, if_neg (fun w => by have := (z3le (by omega) (by omega) (by omega) (by omega)).1 (l3_18 ▸ w); omega), if_neg g, if_neg g, z3nat (by omega) (by omega), l3_1, z3a]
      · by_cases w : (i : Int) = j
        · rw [show j.toNat = i by omega, upd_s]
        · rw [upd_n (by omega)]
          exact p2 i (by omega))
    (fun n a hp => by
      rw [lX7_layBack_2, if_pos (by decide)])
    18 FU 0 s (by omega) (by decide) ⟨by omega, fun i hi => by omega⟩
  refine ⟨s1, ?_, fun i hi => p2 i (by omega)⟩
  unfold mX7_layBack
  rw [l3_0, e1]
  rfl
theorem ok_29 : SOK q_29 := by
  intro u z h
  obtain ⟨a, hO, ⟨⟨hc, hd, hm, hw, hx, hy⟩, ⟨hv, ho, hwt⟩⟩, ⟨s0, s1, s2, tx, ty, tw⟩⟩ := h.1
  have O := hO
  obtain ⟨h0, h5, m0, m1, d0, d1, hr, hry, hrw, hi⟩ := O
  have hbw := hO.bw
  obtain ⟨k, k0, k1, hu⟩ := ex3 (u 1)
  obtain ⟨x, x0, x1, hu3⟩ := ex3 (u 2)
  obtain ⟨y, y0, y1, hu4⟩ := ex3 (u 3)
  unfold q_29
  rw [hu, hu3, hu4]
  have n12 : (12 : Int32) = z3 12 := rfl
  have hN3 : N3 a (a6_present_nodes_count z.1) (a6_present_nodes_degree z.1) (a6_present_nodes_mode z.1) (a6_present_nodes_ws z.1) (a6_present_nodes_xs z.1) (a6_present_nodes_ys z.1) := ⟨hc, hd, hm, hw, hx, hy⟩
  have hN7 : N7 a (a7_s z.2.1) := ⟨s0, s1, s2, tx, ty, tw⟩
  by_cases c1 : 0 ≤ k ∧ k < zC a
  · have nt := nt_y h0 h5 c1 k0 k1
    rw [← hc] at nt
    have I1 := it_y s2 h0 h5 c1 k0 k1
    by_cases c3 : -12 ≤ x ∧ x ≤ 12
    · by_cases c4 : 0 ≤ y ∧ y ≤ 1
      · obtain ⟨e1, e2, e3, cw, cx, cy⟩ := hN3.cp (a6_trial_nodes_ws z.1) (a6_trial_nodes_xs z.1) (a6_trial_nodes_ys z.1) hO
        obtain ⟨ws1, xs1, ys1, D3, dx, dy, dw⟩ := drop3 h0 h5 c1.1 c1.2 cx cy cw
        rw [← hc] at D3
        obtain ⟨sA, C7, t0, t1, t2, tx1, ty1, tw1⟩ := closes7 h0 h5 c1.1 c1.2 s2 tx ty tw
        have hO9 := hO.d c1.1 c1.2
        have hN9 : N3 (wo a k) (z3 (zC a - 1)) (a6_present_nodes_degree z.1) (a6_present_nodes_mode z.1) ws1 xs1 ys1 := ⟨rfl, hd, hm, dw, dx, dy⟩
        have h79 : N7 (wo a k) sA := ⟨t0.trans s0, t1.trans s1, t2, tx1, ty1, tw1⟩
        obtain ⟨den1, num1, or1, pr1, so1, wt1, RK, hCv⟩ := reckon3 hO9 hN9 (a6_trial_denominator z.1) (a6_trial_numerator z.1) (a6_trial_order z.1) (a6_trial_product z.1) (a6_trial_sorted z.1) (a6_trial_weights z.1)
        have hb9 := hO9.bw
        have hO9' := hO9
        obtain ⟨i0, i5, -, -, -, -, ir, iry, -, -⟩ := hO9'
        obtain ⟨as1, A7, A8⟩ := aside7 (a7_aside z.2.1) (a7_s z.2.1)
        obtain ⟨sB, B7, B8⟩ := back7 as1 sA
        have hb : ∀ σ, JZ σ z.2.1 → ∃ a, OkZ a ∧ J6 a σ ∧ N7 a sB := fun σ hσ => by
          obtain ⟨a', q1, q2, q3⟩ := hσ.1
          exact ⟨a', q1, q2, q3.c q1 (fun i hi => (B8 i hi).trans (A8 i hi))⟩
        by_cases c6 : kiz (zC (wo a k)) (zX (wo a k)) (zY (wo a k)) (zw (wo a k)) x ≤ 1
        · obtain ⟨o1, w1, f1⟩ := hasV_y hO9 h79 c3.1 c3.2 c6 (a7_low z.2.1) (a7_up z.2.1) (a7_order z.2.1) (a7_weights z.2.1)
          have m6 : ∃ r3, mX6_valueWithout (a6_answer_bottom z.1) (a6_answer_top z.1) (a6_present_nodes_count z.1) (a6_present_nodes_degree z.1) (a6_present_nodes_mode z.1) (a6_present_nodes_ws z.1) (a6_present_nodes_xs z.1) (a6_present_nodes_ys z.1) (a6_trial_denominator z.1) (a6_trial_nodes_count z.1) (a6_trial_nodes_degree z.1) (a6_trial_nodes_mode z.1) (a6_trial_nodes_ws z.1) (a6_trial_nodes_xs z.1) (a6_trial_nodes_ys z.1) (a6_trial_numerator z.1) (a6_trial_order z.1) (a6_trial_product z.1) (a6_trial_sorted z.1) (a6_trial_weights z.1) (z3 k) (z3 x) (z3 y) = some (0, (if y = 0 then z6 (vT (zC (wo a k)) (zX (wo a k)) (zY (wo a k)) (zw (wo a k)) x) else z6 (vB (zC (wo a k)) (zX (wo a k)) (zY (wo a k)) (zw (wo a k)) x)), r3) := by
            unfold mX6_valueWithout
            rw [nt, Option.bind_some, if_pos rfl, n12, nw_y c3 x0 x1 (by omega) (by omega), Option.bind_some, if_pos rfl, np_y c4 y0 y1, Option.bind_some, if_pos rfl, copy3, Option.bind_some, D3, Option.bind_some, RK, Option.bind_some, nv_y i0 i5 ir iry hb9 hCv.1 c3.1 c3.2 c6, Option.bind_some, if_pos rfl, part3 _ _ c4]
            exact ⟨_, rfl⟩
          obtain ⟨r3, m6⟩ := m6
          have m7 : mX7_valueWithout (a7_aside z.2.1) (a7_low z.2.1) (a7_order z.2.1) (a7_s z.2.1) (a7_thrown z.2.1) (a7_up z.2.1) (a7_weights z.2.1) (z3 k) (z3 x) (z3 y) = some ((if y = 0 then z6 (vT (zC (wo a k)) (zX (wo a k)) (zY (wo a k)) (zw (wo a k)) x) else z6 (vB (zC (wo a k)) (zX (wo a k)) (zY (wo a k)) (zw (wo a k)) x)), as1, z6 (vB (zC (wo a k)) (zX (wo a k)) (zY (wo a k)) (zw (wo a k)) x), o1, sB, 0, z6 (vT (zC (wo a k)) (zX (wo a k)) (zY (wo a k)) (zw (wo a k)) x), w1) := by
            unfold mX7_valueWithout
            rw [I1, Option.bind_some, iw_y c3 x0 x1, Option.bind_some, if_neg n10, ip_y c4 y0 y1, Option.bind_some, if_neg n10, g2_11, Option.bind_some, if_neg n10, A7, Option.bind_some, C7, Option.bind_some, f1, Option.bind_some, B7, Option.bind_some, if_neg n10, told7 _ _ c4]
            rfl
          have E6 : ∃ σ1 o1, h_valueWithout z.1 (z3 k) (z3 x) (z3 y) z.2.2.1 = some (0, σ1, o1) ∧ (o1 0 = o1 0) ∧ ((0 : Int32) = 0 → o1 = vp_updL z.2.2.1 0 ((if y = 0 then z6 (vT (zC (wo a k)) (zX (wo a k)) (zY (wo a k)) (zw (wo a k)) x) else z6 (vB (zC (wo a k)) (zX (wo a k)) (zY (wo a k)) (zw (wo a k)) x)))) ∧ ∀ τ, JZ z.1 τ → JZ σ1 τ := by
            apply Exists.intro
            apply Exists.intro
            refine ⟨?_, rfl, ?_, ?_⟩
            · unfold h_valueWithout s6_valueWithout
              rw [m6]
              rfl
            · exact fun _ => rfl
            · exact fun τ h => h
          have E7 : ∃ v1 τ1, s7_valueWithout z.2.1 (z3 k) (z3 x) (z3 y) = some (v1, τ1) ∧ a7_thrown τ1 = 0 ∧ ((0 : Int32) = 0 → ((if y = 0 then z6 (vT (zC (wo a k)) (zX (wo a k)) (zY (wo a k)) (zw (wo a k)) x) else z6 (vB (zC (wo a k)) (zX (wo a k)) (zY (wo a k)) (zw (wo a k)) x))) = (fun x => x) v1) ∧ ∀ σ, JZ σ z.2.1 → JZ σ τ1 := by
            apply Exists.intro
            apply Exists.intro
            refine ⟨?_, ?_, ?_, ?_⟩
            · unfold s7_valueWithout
              rw [m7]
              rfl
            · rfl
            · exact fun _ => rfl
            · exact fun σ hσ => ⟨hb σ hσ, hσ.2⟩
          obtain ⟨σ1, o1, e6, -, v6, j6⟩ := E6
          obtain ⟨w1, τ1, e7, t7, v7, j7⟩ := E7
          exact fin1 (fun x => x) e6 e7 t7 (fun w => by rw [v6 w, updL_s]; exact v7 w) (j7 _ (j6 _ h))
        · obtain ⟨o1, w1, f1⟩ := hasV_n hO9 h79 c3.1 c3.2 c6 (a7_low z.2.1) (a7_up z.2.1) (a7_order z.2.1) (a7_weights z.2.1)
          have m6 : ∃ r3, mX6_valueWithout (a6_answer_bottom z.1) (a6_answer_top z.1) (a6_present_nodes_count z.1) (a6_present_nodes_degree z.1) (a6_present_nodes_mode z.1) (a6_present_nodes_ws z.1) (a6_present_nodes_xs z.1) (a6_present_nodes_ys z.1) (a6_trial_denominator z.1) (a6_trial_nodes_count z.1) (a6_trial_nodes_degree z.1) (a6_trial_nodes_mode z.1) (a6_trial_nodes_ws z.1) (a6_trial_nodes_xs z.1) (a6_trial_nodes_ys z.1) (a6_trial_numerator z.1) (a6_trial_order z.1) (a6_trial_product z.1) (a6_trial_sorted z.1) (a6_trial_weights z.1) (z3 k) (z3 x) (z3 y) = some (4, 0, r3) := by
            unfold mX6_valueWithout
            rw [nt, Option.bind_some, if_pos rfl, n12, nw_y c3 x0 x1 (by omega) (by omega), Option.bind_some, if_pos rfl, np_y c4 y0 y1, Option.bind_some, if_pos rfl, copy3, Option.bind_some, D3, Option.bind_some, RK, Option.bind_some, nv_n i0 i5 ir iry hb9 hCv.1 c3.1 c3.2 c6]
            exact ⟨_, rfl⟩
          obtain ⟨r3, m6⟩ := m6
          have m7 : mX7_valueWithout (a7_aside z.2.1) (a7_low z.2.1) (a7_order z.2.1) (a7_s z.2.1) (a7_thrown z.2.1) (a7_up z.2.1) (a7_weights z.2.1) (z3 k) (z3 x) (z3 y) = some (0, as1, a7_low z.2.1, o1, sB, 3, a7_up z.2.1, w1) := by
            unfold mX7_valueWithout
            rw [I1, Option.bind_some, iw_y c3 x0 x1, Option.bind_some, if_neg n10, ip_y c4 y0 y1, Option.bind_some, if_neg n10, g2_11, Option.bind_some, if_neg n10, A7, Option.bind_some, C7, Option.bind_some, f1, Option.bind_some, B7]
            rfl
          have E6 : ∃ σ1 o1, h_valueWithout z.1 (z3 k) (z3 x) (z3 y) z.2.2.1 = some (3, σ1, o1) ∧ (o1 0 = o1 0) ∧ ((3 : Int32) = 0 → o1 = vp_updL z.2.2.1 0 (0)) ∧ ∀ τ, JZ z.1 τ → JZ σ1 τ := by
            apply Exists.intro
            apply Exists.intro
            refine ⟨?_, rfl, ?_, ?_⟩
            · unfold h_valueWithout s6_valueWithout
              rw [m6]
              rfl
            · exact fun w => absurd w (by decide)
            · exact fun τ h => h
          have E7 : ∃ v1 τ1, s7_valueWithout z.2.1 (z3 k) (z3 x) (z3 y) = some (v1, τ1) ∧ a7_thrown τ1 = 3 ∧ ((3 : Int32) = 0 → (0) = (fun x => x) v1) ∧ ∀ σ, JZ σ z.2.1 → JZ σ τ1 := by
            apply Exists.intro
            apply Exists.intro
            refine ⟨?_, ?_, ?_, ?_⟩
            · unfold s7_valueWithout
              rw [m7]
              rfl
            · rfl
            · exact fun w => absurd w (by decide)
            · exact fun σ hσ => ⟨hb σ hσ, hσ.2⟩
          obtain ⟨σ1, o1, e6, -, v6, j6⟩ := E6
          obtain ⟨w1, τ1, e7, t7, v7, j7⟩ := E7
          exact fin1 (fun x => x) e6 e7 t7 (fun w => by rw [v6 w, updL_s]; exact v7 w) (j7 _ (j6 _ h))
      · have m6 : ∃ r3, mX6_valueWithout (a6_answer_bottom z.1) (a6_answer_top z.1) (a6_present_nodes_count z.1) (a6_present_nodes_degree z.1) (a6_present_nodes_mode z.1) (a6_present_nodes_ws z.1) (a6_present_nodes_xs z.1) (a6_present_nodes_ys z.1) (a6_trial_denominator z.1) (a6_trial_nodes_count z.1) (a6_trial_nodes_degree z.1) (a6_trial_nodes_mode z.1) (a6_trial_nodes_ws z.1) (a6_trial_nodes_xs z.1) (a6_trial_nodes_ys z.1) (a6_trial_numerator z.1) (a6_trial_order z.1) (a6_trial_product z.1) (a6_trial_sorted z.1) (a6_trial_weights z.1) (z3 k) (z3 x) (z3 y) = some (2, 0, r3) := by
          unfold mX6_valueWithout
          rw [nt, Option.bind_some, if_pos rfl, n12, nw_y c3 x0 x1 (by omega) (by omega), Option.bind_some, if_pos rfl, np_n c4 y0 y1]
          exact ⟨_, rfl⟩
        obtain ⟨r3, m6⟩ := m6
        have m7 : mX7_valueWithout (a7_aside z.2.1) (a7_low z.2.1) (a7_order z.2.1) (a7_s z.2.1) (a7_thrown z.2.1) (a7_up z.2.1) (a7_weights z.2.1) (z3 k) (z3 x) (z3 y) = some (0, a7_aside z.2.1, a7_low z.2.1, a7_order z.2.1, a7_s z.2.1, 2, a7_up z.2.1, a7_weights z.2.1) := by
          unfold mX7_valueWithout
          rw [I1, Option.bind_some, iw_y c3 x0 x1, Option.bind_some, if_neg n10, ip_n c4 y0 y1]
          rfl
        have E6 : ∃ σ1 o1, h_valueWithout z.1 (z3 k) (z3 x) (z3 y) z.2.2.1 = some (2, σ1, o1) ∧ (o1 0 = o1 0) ∧ ((2 : Int32) = 0 → o1 = vp_updL z.2.2.1 0 (0)) ∧ ∀ τ, JZ z.1 τ → JZ σ1 τ := by
          apply Exists.intro
          apply Exists.intro
          refine ⟨?_, rfl, ?_, ?_⟩
          · unfold h_valueWithout s6_valueWithout
            rw [m6]
            rfl
          · exact fun w => absurd w (by decide)
          · exact fun τ h => h
        have E7 : ∃ v1 τ1, s7_valueWithout z.2.1 (z3 k) (z3 x) (z3 y) = some (v1, τ1) ∧ a7_thrown τ1 = 2 ∧ ((2 : Int32) = 0 → (0) = (fun x => x) v1) ∧ ∀ σ, JZ σ z.2.1 → JZ σ τ1 := by
          apply Exists.intro
          apply Exists.intro
          refine ⟨?_, ?_, ?_, ?_⟩
          · unfold s7_valueWithout
            rw [m7]
            rfl
          · rfl
          · exact fun w => absurd w (by decide)
          · exact fun σ h => h
        obtain ⟨σ1, o1, e6, -, v6, j6⟩ := E6
        obtain ⟨w1, τ1, e7, t7, v7, j7⟩ := E7
        exact fin1 (fun x => x) e6 e7 t7 (fun w => by rw [v6 w, updL_s]; exact v7 w) (j7 _ (j6 _ h))
    · have m6 : ∃ r3, mX6_valueWithout (a6_answer_bottom z.1) (a6_answer_top z.1) (a6_present_nodes_count z.1) (a6_present_nodes_degree z.1) (a6_present_nodes_mode z.1) (a6_present_nodes_ws z.1) (a6_present_nodes_xs z.1) (a6_present_nodes_ys z.1) (a6_trial_denominator z.1) (a6_trial_nodes_count z.1) (a6_trial_nodes_degree z.1) (a6_trial_nodes_mode z.1) (a6_trial_nodes_ws z.1) (a6_trial_nodes_xs z.1) (a6_trial_nodes_ys z.1) (a6_trial_numerator z.1) (a6_trial_order z.1) (a6_trial_product z.1) (a6_trial_sorted z.1) (a6_trial_weights z.1) (z3 k) (z3 x) (z3 y) = some (2, 0, r3) := by
        unfold mX6_valueWithout
        rw [nt, Option.bind_some, if_pos rfl, n12, nw_n c3 x0 x1 (by omega) (by omega)]
        exact ⟨_, rfl⟩
      obtain ⟨r3, m6⟩ := m6
      have m7 : mX7_valueWithout (a7_aside z.2.1) (a7_low z.2.1) (a7_order z.2.1) (a7_s z.2.1) (a7_thrown z.2.1) (a7_up z.2.1) (a7_weights z.2.1) (z3 k) (z3 x) (z3 y) = some (0, a7_aside z.2.1, a7_low z.2.1, a7_order z.2.1, a7_s z.2.1, 2, a7_up z.2.1, a7_weights z.2.1) := by
        unfold mX7_valueWithout
        rw [I1, Option.bind_some, iw_n c3 x0 x1]
        rfl
      have E6 : ∃ σ1 o1, h_valueWithout z.1 (z3 k) (z3 x) (z3 y) z.2.2.1 = some (2, σ1, o1) ∧ (o1 0 = o1 0) ∧ ((2 : Int32) = 0 → o1 = vp_updL z.2.2.1 0 (0)) ∧ ∀ τ, JZ z.1 τ → JZ σ1 τ := by
        apply Exists.intro
        apply Exists.intro
        refine ⟨?_, rfl, ?_, ?_⟩
        · unfold h_valueWithout s6_valueWithout
          rw [m6]
          rfl
        · exact fun w => absurd w (by decide)
        · exact fun τ h => h
      have E7 : ∃ v1 τ1, s7_valueWithout z.2.1 (z3 k) (z3 x) (z3 y) = some (v1, τ1) ∧ a7_thrown τ1 = 2 ∧ ((2 : Int32) = 0 → (0) = (fun x => x) v1) ∧ ∀ σ, JZ σ z.2.1 → JZ σ τ1 := by
        apply Exists.intro
        apply Exists.intro
        refine ⟨?_, ?_, ?_, ?_⟩
        · unfold s7_valueWithout
          rw [m7]
          rfl
        · rfl
        · exact fun w => absurd w (by decide)
        · exact fun σ h => h
      obtain ⟨σ1, o1, e6, -, v6, j6⟩ := E6
      obtain ⟨w1, τ1, e7, t7, v7, j7⟩ := E7
      exact fin1 (fun x => x) e6 e7 t7 (fun w => by rw [v6 w, updL_s]; exact v7 w) (j7 _ (j6 _ h))
  · have nt := nt_n h0 h5 c1 k0 k1
    rw [← hc] at nt
    have I1 := it_n s2 h0 h5 c1 k0 k1
    have Wh : mX7_isWhole (z3 x) = some 1 ∨ mX7_isWhole (z3 x) = some 0 := by
      by_cases q : -12 ≤ x ∧ x ≤ 12
      · exact Or.inl (iw_y q x0 x1)
      · exact Or.inr (iw_n q x0 x1)
    have Pa : mX7_isPart (z3 y) = some 1 ∨ mX7_isPart (z3 y) = some 0 := by
      by_cases q : 0 ≤ y ∧ y ≤ 1
      · exact Or.inl (ip_y q y0 y1)
      · exact Or.inr (ip_n q y0 y1)
    have m6 : ∃ r3, mX6_valueWithout (a6_answer_bottom z.1) (a6_answer_top z.1) (a6_present_nodes_count z.1) (a6_present_nodes_degree z.1) (a6_present_nodes_mode z.1) (a6_present_nodes_ws z.1) (a6_present_nodes_xs z.1) (a6_present_nodes_ys z.1) (a6_trial_denominator z.1) (a6_trial_nodes_count z.1) (a6_trial_nodes_degree z.1) (a6_trial_nodes_mode z.1) (a6_trial_nodes_ws z.1) (a6_trial_nodes_xs z.1) (a6_trial_nodes_ys z.1) (a6_trial_numerator z.1) (a6_trial_order z.1) (a6_trial_product z.1) (a6_trial_sorted z.1) (a6_trial_weights z.1) (z3 k) (z3 x) (z3 y) = some (1, 0, r3) := by
      unfold mX6_valueWithout
      rw [nt]
      exact ⟨_, rfl⟩
    obtain ⟨r3, m6⟩ := m6
    have m7 : mX7_valueWithout (a7_aside z.2.1) (a7_low z.2.1) (a7_order z.2.1) (a7_s z.2.1) (a7_thrown z.2.1) (a7_up z.2.1) (a7_weights z.2.1) (z3 k) (z3 x) (z3 y) = some (0, a7_aside z.2.1, a7_low z.2.1, a7_order z.2.1, a7_s z.2.1, 1, a7_up z.2.1, a7_weights z.2.1) := by
      unfold mX7_valueWithout
      rcases Wh with e2 | e2 <;> rcases Pa with e4 | e4 <;> first | (rw [I1, Option.bind_some, e2, Option.bind_some, if_neg n10, e4]; rfl) | (rw [I1, Option.bind_some, e2]; rfl)
    have E6 : ∃ σ1 o1, h_valueWithout z.1 (z3 k) (z3 x) (z3 y) z.2.2.1 = some (1, σ1, o1) ∧ (o1 0 = o1 0) ∧ ((1 : Int32) = 0 → o1 = vp_updL z.2.2.1 0 (0)) ∧ ∀ τ, JZ z.1 τ → JZ σ1 τ := by
      apply Exists.intro
      apply Exists.intro
      refine ⟨?_, rfl, ?_, ?_⟩
      · unfold h_valueWithout s6_valueWithout
        rw [m6]
        rfl
      · exact fun w => absurd w (by decide)
      · exact fun τ h => h
    have E7 : ∃ v1 τ1, s7_valueWithout z.2.1 (z3 k) (z3 x) (z3 y) = some (v1, τ1) ∧ a7_thrown τ1 = 1 ∧ ((1 : Int32) = 0 → (0) = (fun x => x) v1) ∧ ∀ σ, JZ σ z.2.1 → JZ σ τ1 := by
      apply Exists.intro
      apply Exists.intro
      refine ⟨?_, ?_, ?_, ?_⟩
      · unfold s7_valueWithout
        rw [m7]
        rfl
      · rfl
      · exact fun w => absurd w (by decide)
      · exact fun σ h => h
    obtain ⟨σ1, o1, e6, -, v6, j6⟩ := E6
    obtain ⟨w1, τ1, e7, t7, v7, j7⟩ := E7
    exact fin1 (fun x => x) e6 e7 t7 (fun w => by rw [v6 w, updL_s]; exact v7 w) (j7 _ (j6 _ h))
theorem ok_7 : SOK q_7 := by
  intro u z h
  obtain ⟨a, hO, ⟨⟨hc, hd, hm, hw, hx, hy⟩, ⟨hv, ho, hwt⟩⟩, ⟨s0, s1, s2, tx, ty, tw⟩⟩ := h.1
  have O := hO
  obtain ⟨h0, h5, m0, m1, d0, d1, hr, hry, hrw, hi⟩ := O
  have hbw := hO.bw
  obtain ⟨k, k0, k1, hu⟩ := ex3 (u 1)
  obtain ⟨y, y0, y1, hu4⟩ := ex3 (u 2)
  unfold q_7
  rw [hu, hu4]
  have n3 : (3 : Int32) = z3 3 := rfl
  have q3 : (3 : Int64) = z6 3 := rfl
  by_cases c1 : 0 ≤ k ∧ k < zC a
  · have nt := nt_y h0 h5 c1 k0 k1
    rw [← hc] at nt
    have I1 := it_y s2 h0 h5 c1 k0 k1
    by_cases c2 : 0 ≤ y ∧ y ≤ 3
    · have B3 : mX6_needBetween (z3 y) 0 3 = some 0 := nb_y c2 y0 y1 (by omega) (by omega) (by omega) (by omega)
      have B7 : mX7_isIn (Int32.toInt64 (z3 y)) 0 3 = some 1 := by
        rw [z364 y0 y1]
        exact ii_y c2 y0 y1 (by omega) (by omega) (by omega) (by omega)
      have g3 := gix (x := 3 + k) (n := 18) (by omega) (by omega) (by decide)
      have g8 := gix (x := 8 + k) (n := 18) (by omega) (by omega) (by decide)
      have g13 := gix (x := 13 + k) (n := 18) (by omega) (by omega) (by decide)
      have e3 : (3 : Int32) + z3 k = z3 (3 + k) := by rw [l3_3, z3a]
      have e8 : (8 : Int32) + z3 k = z3 (8 + k) := by rw [l3_8, z3a]
      have e13 : (13 : Int32) + z3 k = z3 (13 + k) := by rw [l3_13, z3a]
      have cc : y = 0 ∨ y = 1 ∨ y = 2 ∨ y = 3 := by omega
      rcases cc with rfl | rfl | rfl | rfl
      · have m6 : mX6_point (a6_present_nodes_count z.1) (a6_present_nodes_ws z.1) (a6_present_nodes_xs z.1) (a6_present_nodes_ys z.1) (z3 k) (z3 0) = some (0, z3 (zX a k)) := by
          unfold mX6_point
          rw [nt, Option.bind_some, if_pos rfl, B3, Option.bind_some, if_pos rfl, if_pos (by decide), xOfz c1.1 (by omega), hx.z c1.1 c1.2]
          rfl
        have m7 : mX7_point (a7_s z.2.1) (a7_thrown z.2.1) (z3 k) (z3 0) = some (z3 (zX a k), 0) := by
          unfold mX7_point
          rw [I1, Option.bind_some, B7, Option.bind_some, g2_11, Option.bind_some, if_neg n10, if_pos (by decide), e3, if_neg g3, z3nat (by omega) (by omega), tx k c1.1 c1.2]
        have E6 : ∃ σ1 o1, h_point z.1 (z3 k) (z3 0) z.2.2.1 = some (0, σ1, o1) ∧ (o1 0 = o1 0) ∧ ((0 : Int32) = 0 → o1 = vp_updL z.2.2.1 0 (Int32.toInt64 (z3 (zX a k)))) ∧ ∀ τ, JZ z.1 τ → JZ σ1 τ := by
          apply Exists.intro
          apply Exists.intro
          refine ⟨?_, rfl, ?_, ?_⟩
          · unfold h_point s6_point
            rw [m6]
            rfl
          · exact fun _ => rfl
          · exact fun τ h => h
        have E7 : ∃ v1 τ1, s7_point z.2.1 (z3 k) (z3 0) = some (v1, τ1) ∧ a7_thrown τ1 = 0 ∧ ((0 : Int32) = 0 → (Int32.toInt64 (z3 (zX a k))) = (Int32.toInt64) v1) ∧ ∀ σ, JZ σ z.2.1 → JZ σ τ1 := by
          apply Exists.intro
          apply Exists.intro
          refine ⟨?_, ?_, ?_, ?_⟩
          · unfold s7_point
            rw [m7]
            rfl
          · rfl
          · exact fun _ => rfl
          · exact fun σ h => h
        obtain ⟨σ1, o1, e6, -, v6, j6⟩ := E6
        obtain ⟨w1, τ1, e7, t7, v7, j7⟩ := E7
        exact fin1 (Int32.toInt64) e6 e7 t7 (fun w => by rw [v6 w, updL_s]; exact v7 w) (j7 _ (j6 _ h))
      · have m6 : mX6_point (a6_present_nodes_count z.1) (a6_present_nodes_ws z.1) (a6_present_nodes_xs z.1) (a6_present_nodes_ys z.1) (z3 k) (z3 1) = some (0, z3 (zY a k)) := by
          unfold mX6_point
          rw [nt, Option.bind_some, if_pos rfl, B3, Option.bind_some, if_pos rfl, if_neg (by decide), if_pos (by decide), yOfz c1.1 (by omega), hy.z c1.1 c1.2]
          rfl
        have m7 : mX7_point (a7_s z.2.1) (a7_thrown z.2.1) (z3 k) (z3 1) = some (z3 (zY a k), 0) := by
          unfold mX7_point
          rw [I1, Option.bind_some, B7, Option.bind_some, g2_11, Option.bind_some, if_neg n10, if_neg (by decide), if_pos (by decide), e8, if_neg g8, z3nat (by omega) (by omega), ty k c1.1 c1.2]
        have E6 : ∃ σ1 o1, h_point z.1 (z3 k) (z3 1) z.2.2.1 = some (0, σ1, o1) ∧ (o1 0 = o1 0) ∧ ((0 : Int32) = 0 → o1 = vp_updL z.2.2.1 0 (Int32.toInt64 (z3 (zY a k)))) ∧ ∀ τ, JZ z.1 τ → JZ σ1 τ := by
          apply Exists.intro
          apply Exists.intro
          refine ⟨?_, rfl, ?_, ?_⟩
          · unfold h_point s6_point
            rw [m6]
            rfl
          · exact fun _ => rfl
          · exact fun τ h => h
        have E7 : ∃ v1 τ1, s7_point z.2.1 (z3 k) (z3 1) = some (v1, τ1) ∧ a7_thrown τ1 = 0 ∧ ((0 : Int32) = 0 → (Int32.toInt64 (z3 (zY a k))) = (Int32.toInt64) v1) ∧ ∀ σ, JZ σ z.2.1 → JZ σ τ1 := by
          apply Exists.intro
          apply Exists.intro
          refine ⟨?_, ?_, ?_, ?_⟩
          · unfold s7_point
            rw [m7]
            rfl
          · rfl
          · exact fun _ => rfl
          · exact fun σ h => h
        obtain ⟨σ1, o1, e6, -, v6, j6⟩ := E6
        obtain ⟨w1, τ1, e7, t7, v7, j7⟩ := E7
        exact fin1 (Int32.toInt64) e6 e7 t7 (fun w => by rw [v6 w, updL_s]; exact v7 w) (j7 _ (j6 _ h))
      · have m6 : mX6_point (a6_present_nodes_count z.1) (a6_present_nodes_ws z.1) (a6_present_nodes_xs z.1) (a6_present_nodes_ys z.1) (z3 k) (z3 2) = some (0, z3 (zW a k)) := by
          unfold mX6_point
          rw [nt, Option.bind_some, if_pos rfl, B3, Option.bind_some, if_pos rfl, if_neg (by decide), if_neg (by decide), if_pos (by decide), wOfz c1.1 (by omega), hw.z c1.1 c1.2]
          rfl
        have m7 : mX7_point (a7_s z.2.1) (a7_thrown z.2.1) (z3 k) (z3 2) = some (z3 (zW a k), 0) := by
          unfold mX7_point
          rw [I1, Option.bind_some, B7, Option.bind_some, g2_11, Option.bind_some, if_neg n10, if_neg (by decide), if_neg (by decide), if_pos (by decide), e13, if_neg g13, z3nat (by omega) (by omega), tw k c1.1 c1.2]
        have E6 : ∃ σ1 o1, h_point z.1 (z3 k) (z3 2) z.2.2.1 = some (0, σ1, o1) ∧ (o1 0 = o1 0) ∧ ((0 : Int32) = 0 → o1 = vp_updL z.2.2.1 0 (Int32.toInt64 (z3 (zW a k)))) ∧ ∀ τ, JZ z.1 τ → JZ σ1 τ := by
          apply Exists.intro
          apply Exists.intro
          refine ⟨?_, rfl, ?_, ?_⟩
          · unfold h_point s6_point
            rw [m6]
            rfl
          · exact fun _ => rfl
          · exact fun τ h => h
        have E7 : ∃ v1 τ1, s7_point z.2.1 (z3 k) (z3 2) = some (v1, τ1) ∧ a7_thrown τ1 = 0 ∧ ((0 : Int32) = 0 → (Int32.toInt64 (z3 (zW a k))) = (Int32.toInt64) v1) ∧ ∀ σ, JZ σ z.2.1 → JZ σ τ1 := by
          apply Exists.intro
          apply Exists.intro
          refine ⟨?_, ?_, ?_, ?_⟩
          · unfold s7_point
            rw [m7]
            rfl
          · rfl
          · exact fun _ => rfl
          · exact fun σ h => h
        obtain ⟨σ1, o1, e6, -, v6, j6⟩ := E6
        obtain ⟨w1, τ1, e7, t7, v7, j7⟩ := E7
        exact fin1 (Int32.toInt64) e6 e7 t7 (fun w => by rw [v6 w, updL_s]; exact v7 w) (j7 _ (j6 _ h))
      · have m6 : mX6_point (a6_present_nodes_count z.1) (a6_present_nodes_ws z.1) (a6_present_nodes_xs z.1) (a6_present_nodes_ys z.1) (z3 k) (z3 3) = some (0, z3 (plz (zC a) (zX a) k)) := by
          unfold mX6_point
          rw [nt, Option.bind_some, if_pos rfl, B3, Option.bind_some, if_pos rfl, if_neg (by decide), if_neg (by decide), if_neg (by decide), hc, place3 h0 h5 hx hr c1.1 c1.2]
          rfl
        have m7 : mX7_point (a7_s z.2.1) (a7_thrown z.2.1) (z3 k) (z3 3) = some (z3 (plz (zC a) (zX a) k), 0) := by
          unfold mX7_point
          rw [I1, Option.bind_some, B7, Option.bind_some, g2_11, Option.bind_some, if_neg n10, if_neg (by decide), if_neg (by decide), if_neg (by decide), place7 h0 h5 s2 tx hr c1.1 c1.2]
          rfl
        have E6 : ∃ σ1 o1, h_point z.1 (z3 k) (z3 3) z.2.2.1 = some (0, σ1, o1) ∧ (o1 0 = o1 0) ∧ ((0 : Int32) = 0 → o1 = vp_updL z.2.2.1 0 (Int32.toInt64 (z3 (plz (zC a) (zX a) k)))) ∧ ∀ τ, JZ z.1 τ → JZ σ1 τ := by
          apply Exists.intro
          apply Exists.intro
          refine ⟨?_, rfl, ?_, ?_⟩
          · unfold h_point s6_point
            rw [m6]
            rfl
          · exact fun _ => rfl
          · exact fun τ h => h
        have E7 : ∃ v1 τ1, s7_point z.2.1 (z3 k) (z3 3) = some (v1, τ1) ∧ a7_thrown τ1 = 0 ∧ ((0 : Int32) = 0 → (Int32.toInt64 (z3 (plz (zC a) (zX a) k))) = (Int32.toInt64) v1) ∧ ∀ σ, JZ σ z.2.1 → JZ σ τ1 := by
          apply Exists.intro
          apply Exists.intro
          refine ⟨?_, ?_, ?_, ?_⟩
          · unfold s7_point
            rw [m7]
            rfl
          · rfl
          · exact fun _ => rfl
          · exact fun σ h => h
        obtain ⟨σ1, o1, e6, -, v6, j6⟩ := E6
        obtain ⟨w1, τ1, e7, t7, v7, j7⟩ := E7
        exact fin1 (Int32.toInt64) e6 e7 t7 (fun w => by rw [v6 w, updL_s]; exact v7 w) (j7 _ (j6 _ h))
    · have B3 : mX6_needBetween (z3 y) 0 3 = some 2 := nb_n c2 y0 y1 (by omega) (by omega) (by omega) (by omega)
      have B7 : mX7_isIn (Int32.toInt64 (z3 y)) 0 3 = some 0 := by
        rw [z364 y0 y1]
        exact ii_n c2 y0 y1 (by omega) (by omega) (by omega) (by omega)
      have m6 : mX6_point (a6_present_nodes_count z.1) (a6_present_nodes_ws z.1) (a6_present_nodes_xs z.1) (a6_present_nodes_ys z.1) (z3 k) (z3 y) = some (2, 0) := by
        unfold mX6_point
        rw [nt, Option.bind_some, if_pos rfl, B3]
        rfl
      have m7 : mX7_point (a7_s z.2.1) (a7_thrown z.2.1) (z3 k) (z3 y) = some (0, 2) := by
        unfold mX7_point
        rw [I1, Option.bind_some, B7]
        rfl
      have E6 : ∃ σ1 o1, h_point z.1 (z3 k) (z3 y) z.2.2.1 = some (2, σ1, o1) ∧ (o1 0 = o1 0) ∧ ((2 : Int32) = 0 → o1 = vp_updL z.2.2.1 0 (0)) ∧ ∀ τ, JZ z.1 τ → JZ σ1 τ := by
        apply Exists.intro
        apply Exists.intro
        refine ⟨?_, rfl, ?_, ?_⟩
        · unfold h_point s6_point
          rw [m6]
          rfl
        · exact fun w => absurd w (by decide)
        · exact fun τ h => h
      have E7 : ∃ v1 τ1, s7_point z.2.1 (z3 k) (z3 y) = some (v1, τ1) ∧ a7_thrown τ1 = 2 ∧ ((2 : Int32) = 0 → (0) = (Int32.toInt64) v1) ∧ ∀ σ, JZ σ z.2.1 → JZ σ τ1 := by
        apply Exists.intro
        apply Exists.intro
        refine ⟨?_, ?_, ?_, ?_⟩
        · unfold s7_point
          rw [m7]
          rfl
        · rfl
        · exact fun w => absurd w (by decide)
        · exact fun σ h => h
      obtain ⟨σ1, o1, e6, -, v6, j6⟩ := E6
      obtain ⟨w1, τ1, e7, t7, v7, j7⟩ := E7
      exact fin1 (Int32.toInt64) e6 e7 t7 (fun w => by rw [v6 w, updL_s]; exact v7 w) (j7 _ (j6 _ h))
  · have nt := nt_n h0 h5 c1 k0 k1
    rw [← hc] at nt
    have I1 := it_n s2 h0 h5 c1 k0 k1
    have B7 : mX7_isIn (Int32.toInt64 (z3 y)) 0 3 = some 0 ∨ mX7_isIn (Int32.toInt64 (z3 y)) 0 3 = some 1 := by
      rw [z364 y0 y1]
      by_cases q : 0 ≤ y ∧ y ≤ 3
      · exact Or.inr (ii_y q y0 y1 (by omega) (by omega) (by omega) (by omega))
      · exact Or.inl (ii_n q y0 y1 (by omega) (by omega) (by omega) (by omega))
    have m6 : mX6_point (a6_present_nodes_count z.1) (a6_present_nodes_ws z.1) (a6_present_nodes_xs z.1) (a6_present_nodes_ys z.1) (z3 k) (z3 y) = some (1, 0) := by
      unfold mX6_point
      rw [nt]
      rfl
    have m7 : mX7_point (a7_s z.2.1) (a7_thrown z.2.1) (z3 k) (z3 y) = some (0, 1) := by
      unfold mX7_point
      rcases B7 with e | e <;> (rw [I1, Option.bind_some, e]; rfl)
    have E6 : ∃ σ1 o1, h_point z.1 (z3 k) (z3 y) z.2.2.1 = some (1, σ1, o1) ∧ (o1 0 = o1 0) ∧ ((1 : Int32) = 0 → o1 = vp_updL z.2.2.1 0 (0)) ∧ ∀ τ, JZ z.1 τ → JZ σ1 τ := by
      apply Exists.intro
      apply Exists.intro
      refine ⟨?_, rfl, ?_, ?_⟩
      · unfold h_point s6_point
        rw [m6]
        rfl
      · exact fun w => absurd w (by decide)
      · exact fun τ h => h
    have E7 : ∃ v1 τ1, s7_point z.2.1 (z3 k) (z3 y) = some (v1, τ1) ∧ a7_thrown τ1 = 1 ∧ ((1 : Int32) = 0 → (0) = (Int32.toInt64) v1) ∧ ∀ σ, JZ σ z.2.1 → JZ σ τ1 := by
      apply Exists.intro
      apply Exists.intro
      refine ⟨?_, ?_, ?_, ?_⟩
      · unfold s7_point
        rw [m7]
        rfl
      · rfl
      · exact fun w => absurd w (by decide)
      · exact fun σ h => h
    obtain ⟨σ1, o1, e6, -, v6, j6⟩ := E6
    obtain ⟨w1, τ1, e7, t7, v7, j7⟩ := E7
    exact fin1 (Int32.toInt64) e6 e7 t7 (fun w => by rw [v6 w, updL_s]; exact v7 w) (j7 _ (j6 _ h))
