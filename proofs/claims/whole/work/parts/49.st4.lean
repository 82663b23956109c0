/-! Steps that only read: isMet, missed, weightSum, degreeOf, many. -/
theorem smz_j (f : Int → Int) {j : Int} (h : 0 ≤ j) : smz f (j + 1).toNat 0 = smz f j.toNat 0 + f j := by
  rw [show (j + 1).toNat = j.toNat + 1 by omega, smz_e, show (0 : Int) + (j.toNat : Int) = j by omega]
/-- 1 where a thing holds -/
noncomputable def chi (p : Prop) : Int := @ite Int p (Classical.propDecidable p) 1 0
theorem chi_y {p : Prop} (h : p) : chi p = 1 := if_pos h
theorem chi_n {p : Prop} (h : ¬ p) : chi p = 0 := if_neg h
theorem ok_17 : SOK q_17 := by
  intro u z h
  obtain ⟨a, hO, ⟨⟨hc, hd, hm, hw, hx, hy⟩, ⟨hv, ho, hwt⟩⟩, ⟨s0, s1, s2, tx, ty, tw⟩⟩ := h.1
  have O := hO
  obtain ⟨h0, h5, m0, m1, d0, d1, hr, hry, hrw, hi⟩ := O
  have hbw := hO.bw
  obtain ⟨x, x0, x1, hu⟩ := ex3 (u 1)
  unfold q_17
  rw [hu]
  by_cases c1 : 0 ≤ x ∧ x < zC a
  · have M3 := meets3 hO hx hy hv c1.1 c1.2 (a6_answer_bottom z.1) (a6_answer_top z.1)
    have M7 := meets7 hO ⟨s0, s1, s2, tx, ty, tw⟩ c1.1 c1.2 (a7_low z.2.1) (a7_up z.2.1) (a7_order z.2.1) (a7_weights z.2.1)
    by_cases c2 : metz (zC a) (zX a) (zY a) (zw a) x
    · obtain ⟨b1, t1, e1⟩ := M3.1 c2
      obtain ⟨l2, o2, u2, w2, e2⟩ := M7.1 c2
      have m6 : mX6_isMet (a6_answer_bottom z.1) (a6_answer_top z.1) (a6_present_denominator z.1) (a6_present_nodes_count z.1) (a6_present_nodes_xs z.1) (a6_present_nodes_ys z.1) (a6_present_numerator z.1) (z3 x) = some (0, 1, b1, t1) := by
        unfold mX6_isMet
        rw [hc, nt_y h0 h5 c1 x0 x1, Option.bind_some, if_pos rfl, e1]
        rfl
      have m7 : mX7_isMet (a7_low z.2.1) (a7_order z.2.1) (a7_s z.2.1) (a7_thrown z.2.1) (a7_up z.2.1) (a7_weights z.2.1) (z3 x) = some (1, l2, o2, 0, u2, w2) := by
        unfold mX7_isMet
        rw [it_y s2 h0 h5 c1 x0 x1, Option.bind_some, gd1, Option.bind_some, if_neg n10, e2, Option.bind_some, if_neg n10]
      have E6 : ∃ σ1 o1, h_isMet z.1 (z3 x) z.2.2.1 = some (0, σ1, o1) ∧ (o1 0 = o1 0) ∧ ((0 : Int32) = 0 → o1 = vp_updL z.2.2.1 0 ((1 : Int64))) ∧ ∀ τ, JZ z.1 τ → JZ σ1 τ := by
        apply Exists.intro
        apply Exists.intro
        refine ⟨?_, rfl, ?_, ?_⟩
        · unfold h_isMet s6_isMet
          rw [m6]
          rfl
        · exact fun _ => rfl
        · exact fun τ h => h
      have E7 : ∃ v1 τ1, s7_isMet z.2.1 (z3 x) = some (v1, τ1) ∧ a7_thrown τ1 = 0 ∧ ((0 : Int32) = 0 → ((1 : Int64)) = (fun b => if b = 0 then (0 : Int64) else 1) v1) ∧ ∀ σ, JZ σ z.2.1 → JZ σ τ1 := by
        apply Exists.intro
        apply Exists.intro
        refine ⟨?_, ?_, ?_, ?_⟩
        · unfold s7_isMet
          rw [m7]
          rfl
        · rfl
        · exact fun _ => rfl
        · exact fun σ h => h
      obtain ⟨σ1, o1, e6, -, v6, j6⟩ := E6
      obtain ⟨w1, τ1, e7, t7, v7, j7⟩ := E7
      exact fin1 (fun b => if b = 0 then (0 : Int64) else 1) e6 e7 t7 (fun w => by rw [v6 w, updL_s]; exact v7 w) (j7 _ (j6 _ h))
    · obtain ⟨b1, t1, e1⟩ := M3.2 c2
      obtain ⟨l2, o2, u2, w2, e2⟩ := M7.2 c2
      have m6 : mX6_isMet (a6_answer_bottom z.1) (a6_answer_top z.1) (a6_present_denominator z.1) (a6_present_nodes_count z.1) (a6_present_nodes_xs z.1) (a6_present_nodes_ys z.1) (a6_present_numerator z.1) (z3 x) = some (0, 0, b1, t1) := by
        unfold mX6_isMet
        rw [hc, nt_y h0 h5 c1 x0 x1, Option.bind_some, if_pos rfl, e1]
        rfl
      have m7 : mX7_isMet (a7_low z.2.1) (a7_order z.2.1) (a7_s z.2.1) (a7_thrown z.2.1) (a7_up z.2.1) (a7_weights z.2.1) (z3 x) = some (0, l2, o2, 0, u2, w2) := by
        unfold mX7_isMet
        rw [it_y s2 h0 h5 c1 x0 x1, Option.bind_some, gd1, Option.bind_some, if_neg n10, e2, Option.bind_some, if_pos rfl]
      have E6 : ∃ σ1 o1, h_isMet z.1 (z3 x) z.2.2.1 = some (0, σ1, o1) ∧ (o1 0 = o1 0) ∧ ((0 : Int32) = 0 → o1 = vp_updL z.2.2.1 0 ((0 : Int64))) ∧ ∀ τ, JZ z.1 τ → JZ σ1 τ := by
        apply Exists.intro
        apply Exists.intro
        refine ⟨?_, rfl, ?_, ?_⟩
        · unfold h_isMet s6_isMet
          rw [m6]
          rfl
        · exact fun _ => rfl
        · exact fun τ h => h
      have E7 : ∃ v1 τ1, s7_isMet z.2.1 (z3 x) = some (v1, τ1) ∧ a7_thrown τ1 = 0 ∧ ((0 : Int32) = 0 → ((0 : Int64)) = (fun b => if b = 0 then (0 : Int64) else 1) v1) ∧ ∀ σ, JZ σ z.2.1 → JZ σ τ1 := by
        apply Exists.intro
        apply Exists.intro
        refine ⟨?_, ?_, ?_, ?_⟩
        · unfold s7_isMet
          rw [m7]
          rfl
        · rfl
        · exact fun _ => rfl
        · exact fun σ h => h
      obtain ⟨σ1, o1, e6, -, v6, j6⟩ := E6
      obtain ⟨w1, τ1, e7, t7, v7, j7⟩ := E7
      exact fin1 (fun b => if b = 0 then (0 : Int64) else 1) e6 e7 t7 (fun w => by rw [v6 w, updL_s]; exact v7 w) (j7 _ (j6 _ h))
  · have m6 : mX6_isMet (a6_answer_bottom z.1) (a6_answer_top z.1) (a6_present_denominator z.1) (a6_present_nodes_count z.1) (a6_present_nodes_xs z.1) (a6_present_nodes_ys z.1) (a6_present_numerator z.1) (z3 x) = some (1, 0, a6_answer_bottom z.1, a6_answer_top z.1) := by
      unfold mX6_isMet
      rw [hc, nt_n h0 h5 c1 x0 x1]
      rfl
    have m7 : mX7_isMet (a7_low z.2.1) (a7_order z.2.1) (a7_s z.2.1) (a7_thrown z.2.1) (a7_up z.2.1) (a7_weights z.2.1) (z3 x) = some (0, a7_low z.2.1, a7_order z.2.1, 1, a7_up z.2.1, a7_weights z.2.1) := by
      unfold mX7_isMet
      rw [it_n s2 h0 h5 c1 x0 x1]
      rfl
    have E6 : ∃ σ1 o1, h_isMet z.1 (z3 x) z.2.2.1 = some (1, σ1, o1) ∧ (o1 0 = o1 0) ∧ ((1 : Int32) = 0 → o1 = vp_updL z.2.2.1 0 (0)) ∧ ∀ τ, JZ z.1 τ → JZ σ1 τ := by
      apply Exists.intro
      apply Exists.intro
      refine ⟨?_, rfl, ?_, ?_⟩
      · unfold h_isMet s6_isMet
        rw [m6]
        rfl
      · exact fun w => absurd w (by decide)
      · exact fun τ h => h
    have E7 : ∃ v1 τ1, s7_isMet z.2.1 (z3 x) = some (v1, τ1) ∧ a7_thrown τ1 = 1 ∧ ((1 : Int32) = 0 → (0) = (fun b => if b = 0 then (0 : Int64) else 1) v1) ∧ ∀ σ, JZ σ z.2.1 → JZ σ τ1 := by
      apply Exists.intro
      apply Exists.intro
      refine ⟨?_, ?_, ?_, ?_⟩
      · unfold s7_isMet
        rw [m7]
        rfl
      · rfl
      · exact fun w => absurd w (by decide)
      · exact fun σ h => h
    obtain ⟨σ1, o1, e6, -, v6, j6⟩ := E6
    obtain ⟨w1, τ1, e7, t7, v7, j7⟩ := E7
    exact fin1 (fun b => if b = 0 then (0 : Int64) else 1) e6 e7 t7 (fun w => by rw [v6 w, updL_s]; exact v7 w) (j7 _ (j6 _ h))
theorem ok_18 : SOK q_18 := by
  intro u z h
  obtain ⟨a, hO, ⟨⟨hc, hd, hm, hw, hx, hy⟩, ⟨hv, ho, hwt⟩⟩, ⟨s0, s1, s2, tx, ty, tw⟩⟩ := h.1
  have O := hO
  obtain ⟨h0, h5, m0, m1, d0, d1, hr, hry, hrw, hi⟩ := O
  have hbw := hO.bw
  unfold q_18
  have K3 : ∃ b1 t1, mX6_missed (a6_answer_bottom z.1) (a6_answer_top z.1) (a6_present_denominator z.1) (a6_present_nodes_count z.1) (a6_present_nodes_xs z.1) (a6_present_nodes_ys z.1) (a6_present_numerator z.1) = some (z3 (smz (fun k => chi (¬ metz (zC a) (zX a) (zY a) (zw a) k)) (zC a).toNat 0), b1, t1) := by
    have H := runr (fun n j (q : Int32 × Int64 × Int64) => lX6_missed_4 (a6_present_denominator z.1) (a6_present_nodes_count z.1) (a6_present_nodes_xs z.1) (a6_present_nodes_ys z.1) (a6_present_numerator z.1) n q.1 (z3 j) q.2.1 q.2.2) (fun j q => 0 ≤ j ∧ q.1 = z3 (smz (fun k => chi (¬ metz (zC a) (zX a) (zY a) (zw a) k)) j.toNat 0)) (zC a) (fun q => q)
      (fun n j q hj hp => by
        obtain ⟨p1, p2⟩ := hp
        have eS : z3 (smz (fun k => chi (¬ metz (zC a) (zX a) (zY a) (zw a) k)) (j + 1).toNat 0) = q.1 + z3 (chi (¬ metz (zC a) (zX a) (zY a) (zw a) j)) := by
          rw [smz_j _ p1, ← z3a, ← p2]
        have M3 := meets3 hO hx hy hv p1 hj q.2.1 q.2.2
        try dsimp only
        rw [lX6_missed_4, hc, mX3_size, Option.bind_some, if_neg (fun w => by have := (z3le (by omega) (by omega) (by omega) (by omega)).1 w; omega), l3_1, z3a j]
        by_cases c2 : metz (zC a) (zX a) (zY a) (zw a) j
        · obtain ⟨b1, t1, e1⟩ := M3.1 c2
          rw [e1, Option.bind_some, if_neg n10]
          rw [chi_n (not_not_intro c2)] at eS
          refine ⟨(q.1, b1, t1), rfl, by omega, ?_⟩
          rw [eS, p2, z3a, Int.add_zero]
        · obtain ⟨b1, t1, e1⟩ := M3.2 c2
          rw [e1, Option.bind_some, if_pos rfl]
          rw [chi_y c2] at eS
          exact ⟨(q.1 + z3 1, b1, t1), rfl, by omega, eS.symm⟩)
      (fun n q hp => by
        try dsimp only
        rw [lX6_missed_4, hc, mX3_size, Option.bind_some, if_pos ((z3le (by omega) (by omega) (by omega) (by omega)).2 (Int.le_refl _))])
      (zC a).toNat FU 0 (0, a6_answer_bottom z.1, a6_answer_top z.1) (by omega) (fuel (by omega)) ⟨by omega, rfl⟩
    obtain ⟨q, e1, p1, p2⟩ := H
    refine ⟨q.2.1, q.2.2, ?_⟩
    unfold mX6_missed
    dsimp only at e1
    rw [l3_0] at *
    rw [e1, ← p2]
    rfl
  have K7 : ∃ l1 o1 u1 w1, mX7_missed (a7_low z.2.1) (a7_order z.2.1) (a7_s z.2.1) (a7_thrown z.2.1) (a7_up z.2.1) (a7_weights z.2.1) = some (z3 (smz (fun k => chi (¬ metz (zC a) (zX a) (zY a) (zw a) k)) (zC a).toNat 0), l1, o1, 0, u1, w1) := by
    have H := runr (fun n j (q : Int32 × Int64 × (Nat → Int32) × Int64 × (Nat → Int64)) => lX7_missed_9 (a7_s z.2.1) n q.1 (z3 j) q.2.1 q.2.2.1 q.2.2.2.1 q.2.2.2.2) (fun j q => 0 ≤ j ∧ q.1 = z3 (smz (fun k => chi (¬ metz (zC a) (zX a) (zY a) (zw a) k)) j.toNat 0)) (zC a) (fun q => q)
      (fun n j q hj hp => by
        obtain ⟨p1, p2⟩ := hp
        have eS : z3 (smz (fun k => chi (¬ metz (zC a) (zX a) (zY a) (zw a) k)) (j + 1).toNat 0) = q.1 + z3 (chi (¬ metz (zC a) (zX a) (zY a) (zw a) j)) := by
          rw [smz_j _ p1, ← z3a, ← p2]
        have M7 := meets7 hO ⟨s0, s1, s2, tx, ty, tw⟩ p1 hj q.2.1 q.2.2.2.1 q.2.2.1 q.2.2.2.2
        have g2 : ¬ ((2 : Int32) < 0 ∨ 18 ≤ Int32.toNatClampNeg 2) := by decide
        have f2 : a7_s z.2.1 (Int32.toNatClampNeg 2) = z3 (zC a) := s2
        try dsimp only
        rw [lX7_missed_9, if_neg g2, f2, if_neg (fun w => by have := (z3le (by omega) (by omega) (by omega) (by omega)).1 w; omega), l3_1, z3a j]
        by_cases c2 : metz (zC a) (zX a) (zY a) (zw a) j
        · obtain ⟨l1, o1, u1, w1, e1⟩ := M7.1 c2
          rw [e1, Option.bind_some, if_neg n10]
          rw [chi_n (not_not_intro c2)] at eS
          refine ⟨(q.1, l1, o1, u1, w1), rfl, by omega, ?_⟩
          rw [eS, p2, z3a, Int.add_zero]
        · obtain ⟨l1, o1, u1, w1, e1⟩ := M7.2 c2
          rw [e1, Option.bind_some, if_pos rfl]
          rw [chi_y c2] at eS
          exact ⟨(q.1 + z3 1, l1, o1, u1, w1), rfl, by omega, eS.symm⟩)
      (fun n q hp => by
        have g2 : ¬ ((2 : Int32) < 0 ∨ 18 ≤ Int32.toNatClampNeg 2) := by decide
        have f2 : a7_s z.2.1 (Int32.toNatClampNeg 2) = z3 (zC a) := s2
        try dsimp only
        rw [lX7_missed_9, if_neg g2, f2, if_pos ((z3le (by omega) (by omega) (by omega) (by omega)).2 (Int.le_refl _))])
      (zC a).toNat FU 0 (0, a7_low z.2.1, a7_order z.2.1, a7_up z.2.1, a7_weights z.2.1) (by omega) (fuel (by omega)) ⟨by omega, rfl⟩
    obtain ⟨q, e1, p1, p2⟩ := H
    refine ⟨q.2.1, q.2.2.1, q.2.2.2.1, q.2.2.2.2, ?_⟩
    unfold mX7_missed
    dsimp only at e1
    rw [l3_0] at *
    rw [e1, ← p2]
    rfl
  obtain ⟨b1, t1, K3⟩ := K3
  obtain ⟨l1, o1, u1, w1, K7⟩ := K7
  have m6 : mX6_missed (a6_answer_bottom z.1) (a6_answer_top z.1) (a6_present_denominator z.1) (a6_present_nodes_count z.1) (a6_present_nodes_xs z.1) (a6_present_nodes_ys z.1) (a6_present_numerator z.1)  = some (z3 (smz (fun k => chi (¬ metz (zC a) (zX a) (zY a) (zw a) k)) (zC a).toNat 0), b1, t1) := by
    exact K3
  have m7 : mX7_missed (a7_low z.2.1) (a7_order z.2.1) (a7_s z.2.1) (a7_thrown z.2.1) (a7_up z.2.1) (a7_weights z.2.1)  = some (z3 (smz (fun k => chi (¬ metz (zC a) (zX a) (zY a) (zw a) k)) (zC a).toNat 0), l1, o1, 0, u1, w1) := by
    exact K7
  have E6 : ∃ σ1, s6_missed z.1  = some (z3 (smz (fun k => chi (¬ metz (zC a) (zX a) (zY a) (zw a) k)) (zC a).toNat 0), σ1) ∧ (∀ τ, JZ z.1 τ → JZ σ1 τ) := by
    apply Exists.intro
    refine ⟨?_, ?_⟩
    · unfold s6_missed
      rw [m6]
      rfl
    · exact fun τ h => h
  have E7 : ∃ τ1, s7_missed z.2.1  = some (z3 (smz (fun k => chi (¬ metz (zC a) (zX a) (zY a) (zw a) k)) (zC a).toNat 0), τ1) ∧ (∀ σ, JZ σ z.2.1 → JZ σ τ1) := by
    apply Exists.intro
    refine ⟨?_, ?_⟩
    · unfold s7_missed
      rw [m7]
      rfl
    · exact fun σ h => h
  obtain ⟨σ1, e6, j6⟩ := E6
  obtain ⟨τ1, e7, j7⟩ := E7
  exact fin0 e6 e7 (j7 _ (j6 _ h))
theorem ok_11 : SOK q_11 := by
  intro u z h
  obtain ⟨a, hO, ⟨⟨hc, hd, hm, hw, hx, hy⟩, ⟨hv, ho, hwt⟩⟩, ⟨s0, s1, s2, tx, ty, tw⟩⟩ := h.1
  have O := hO
  obtain ⟨h0, h5, m0, m1, d0, d1, hr, hry, hrw, hi⟩ := O
  have hbw := hO.bw
  obtain ⟨o1, w1, e1, e2, e3⟩ := lw7 hO ⟨s0, s1, s2, tx, ty, tw⟩ (a7_order z.2.1) (a7_weights z.2.1)
  unfold q_11
  have K3 : mX6_weightSum (a6_present_nodes_count z.1) (a6_present_weights z.1) = some (z6 (smz (zw a) (zC a).toNat 0)) := by
    have H := runz (fun n j (q : Int) => lX6_weightSum_4 (a6_present_nodes_count z.1) (a6_present_weights z.1) n (z6 q) (z3 j)) (fun j q => q + zw a j) (fun j q => 0 ≤ j) (zC a) z6
      (fun n j q hj hp => by
        have hp : 0 ≤ j := hp
        refine ⟨?_, by omega⟩
        have e := hwt j hp hj
        simp (disch := omega) only [lX6_weightSum_4, hc, mX3_size, weightOf3 h5, l3_0, l3_1, l3_2, l3_3, l3_4, l3_5, l3_8, l3_9, l3_10, l3_12, l3_13, l3_14, l3_18, l3_19, l3_20, l3_24, l3_31, l3_32, l3_33, l3_45, l3_47, l3_48, l3_57, l3_58, l3_59, l3_63, l3_94, l3_97, l3_120, l3_122, l3_180, l3_200, l3_255, l3_320, l3_400, z3a, z3s, z3m, z3n, z3le, z3lt, z3eq, z3nat, z364, l6_0, l6_1, l6_2, l6_10, l6_48, z6a, z6s, z6m, z6n, if_neg, Option.bind_some, e])
      (fun n q hp => by
        simp (disch := omega) only [lX6_weightSum_4, hc, mX3_size, l3_0, l3_1, l3_2, l3_3, l3_4, l3_5, l3_8, l3_9, l3_10, l3_12, l3_13, l3_14, l3_18, l3_19, l3_20, l3_24, l3_31, l3_32, l3_33, l3_45, l3_47, l3_48, l3_57, l3_58, l3_59, l3_63, l3_94, l3_97, l3_120, l3_122, l3_180, l3_200, l3_255, l3_320, l3_400, z3a, z3s, z3m, z3n, z3le, z3lt, z3eq, z3nat, z364, if_pos, Option.bind_some])
      (zC a).toNat FU 0 0 (by omega) (fuel (by omega)) (by omega)
    rw [itz_s, Int.zero_add] at H
    unfold mX6_weightSum
    rw [l6_0, l3_0, H.1]
    rfl
  have K7 : mX7_weightSum (a7_order z.2.1) (a7_s z.2.1) (a7_thrown z.2.1) (a7_weights z.2.1) = some (z6 (smz (zw a) (zC a).toNat 0), o1, 0, w1) := by
    have H := runz (fun n j (q : Int) => lX7_weightSum_13 (a7_s z.2.1) w1 n (z6 q) (z3 j)) (fun j q => q + zw a j) (fun j q => 0 ≤ j) (zC a) z6
      (fun n j q hj hp => by
        have hp : 0 ≤ j := hp
        refine ⟨?_, by omega⟩
        have e := e3 j hp hj
        simp (disch := omega) only [lX7_weightSum_13, Int.reduceToNat, s2, l3_0, l3_1, l3_2, l3_3, l3_4, l3_5, l3_8, l3_9, l3_10, l3_12, l3_13, l3_14, l3_18, l3_19, l3_20, l3_24, l3_31, l3_32, l3_33, l3_45, l3_47, l3_48, l3_57, l3_58, l3_59, l3_63, l3_94, l3_97, l3_120, l3_122, l3_180, l3_200, l3_255, l3_320, l3_400, z3a, z3s, z3m, z3n, z3le, z3lt, z3eq, z3nat, z364, l6_0, l6_1, l6_2, l6_10, l6_48, z6a, z6s, z6m, z6n, if_neg, e])
      (fun n q hp => by
        simp (disch := omega) only [lX7_weightSum_13, Int.reduceToNat, s2, l3_0, l3_1, l3_2, l3_3, l3_4, l3_5, l3_8, l3_9, l3_10, l3_12, l3_13, l3_14, l3_18, l3_19, l3_20, l3_24, l3_31, l3_32, l3_33, l3_45, l3_47, l3_48, l3_57, l3_58, l3_59, l3_63, l3_94, l3_97, l3_120, l3_122, l3_180, l3_200, l3_255, l3_320, l3_400, z3a, z3s, z3m, z3n, z3le, z3lt, z3eq, z3nat, z364, if_pos, if_neg])
      (zC a).toNat FU 0 0 (by omega) (fuel (by omega)) (by omega)
    rw [itz_s, Int.zero_add] at H
    unfold mX7_weightSum
    rw [e1, Option.bind_some, l6_0, l3_0]
    try dsimp only
    rw [H.1]
    rfl
  have m6 : mX6_weightSum (a6_present_nodes_count z.1) (a6_present_weights z.1)  = some (z6 (smz (zw a) (zC a).toNat 0)) := by
    exact K3
  have m7 : mX7_weightSum (a7_order z.2.1) (a7_s z.2.1) (a7_thrown z.2.1) (a7_weights z.2.1)  = some (z6 (smz (zw a) (zC a).toNat 0), o1, 0, w1) := by
    exact K7
  have E6 : ∃ σ1, s6_weightSum z.1  = some (z6 (smz (zw a) (zC a).toNat 0), σ1) ∧ (∀ τ, JZ z.1 τ → JZ σ1 τ) := by
    apply Exists.intro
    refine ⟨?_, ?_⟩
    · unfold s6_weightSum
      rw [m6]
      rfl
    · exact fun τ h => h
  have E7 : ∃ τ1, s7_weightSum z.2.1  = some (z6 (smz (zw a) (zC a).toNat 0), τ1) ∧ (∀ σ, JZ σ z.2.1 → JZ σ τ1) := by
    apply Exists.intro
    refine ⟨?_, ?_⟩
    · unfold s7_weightSum
      rw [m7]
      rfl
    · exact fun σ h => h
  obtain ⟨σ1, e6, j6⟩ := E6
  obtain ⟨τ1, e7, j7⟩ := E7
  exact fin0 e6 e7 (j7 _ (j6 _ h))
/-- the degree of a table of coefficients -/
def dgz (f : Int → Int) (r : Int32) : Prop := (∃ p, 0 ≤ p ∧ p < 5 ∧ r = z3 p ∧ z6 (f p) ≠ 0 ∧ ∀ q, p < q → q < 5 → z6 (f q) = 0) ∨ (r = z3 (-1) ∧ ∀ q, 0 ≤ q → q < 5 → z6 (f q) = 0)
theorem dgz_u {f : Int → Int} {r r' : Int32} (h : dgz f r) (h' : dgz f r') : r = r' := by
  rcases h with ⟨p, p0, p1, e, n, k⟩ | ⟨e, k⟩
  · rcases h' with ⟨p', p0', p1', e', n', k'⟩ | ⟨e', k'⟩
    · rw [e, e']
      congr 1
      rcases Int.lt_trichotomy p p' with w | w | w
      · exact absurd (k p' w p1') n'
      · exact w
      · exact absurd (k' p w p1) n
    · exact absurd (k' p p0 p1) n
  · rcases h' with ⟨p', p0', p1', e', n', k'⟩ | ⟨e', k'⟩
    · exact absurd (k p' p0' p1') n'
    · rw [e, e']
theorem degree3 {fd fn : Nat → Int64} {fl : Int32} {f : Int → Int} (hf : E6 5 (if fl = 0 then fn else fd) f) : ∃ r, mX6_degreeOf fd fn fl = some r ∧ dgz f r := by
  obtain ⟨b, e, hb⟩ := rune (fun n j (_ : Unit) => lX6_degreeOf_2 fl fd fn n (z3 (4 - j))) (fun j _ => 0 ≤ j ∧ ∀ q, 4 - j < q → q < 5 → z6 (f q) = 0) (fun b : Nat × Int32 => (b.1 = 0 ∧ dgz f b.2) ∨ (b.1 = 1 ∧ dgz f (z3 (-1)))) 5
    (fun n j _ hj hp => by
      obtain ⟨p1, p2⟩ := hp
      have e := factor3 fl hf (p := 4 - j) (by omega) (by omega)
      try dsimp only
      rw [lX6_degreeOf_2, if_neg (fun w => by have := (z3lt (by omega) (by omega) (by omega) (by omega)).1 (l3_0 ▸ w); omega), e, Option.bind_some]
      by_cases c : z6 (f (4 - j)) = 0
      · rw [if_pos c]
        refine Or.inr ⟨(), ?_, by omega, fun q h1 h2 => ?_⟩
        · rw [show (-1 : Int32) = z3 (-1) from rfl, z3a, show (4 : Int) - j + -1 = 4 - (j + 1) by omega]
        · by_cases w : q = 4 - j
          · rw [w]
            exact c
          · exact p2 q (by omega) h2
      · rw [if_neg c]
        exact Or.inl ⟨_, rfl, Or.inl ⟨rfl, Or.inl ⟨4 - j, by omega, by omega, rfl, c, p2⟩⟩⟩)
    (fun n _ hp => by
      obtain ⟨p1, p2⟩ := hp
      try dsimp only
      rw [lX6_degreeOf_2, if_pos (by decide)]
      exact ⟨_, rfl, Or.inr ⟨rfl, Or.inr ⟨rfl, fun q h1 h2 => p2 q (by omega) h2⟩⟩⟩)
    5 FU 0 () (by omega) (by decide) ⟨by omega, fun q h1 h2 => by omega⟩
  have e : lX6_degreeOf_2 fl fd fn FU 4 = some b := e
  unfold mX6_degreeOf
  rw [e, Option.bind_some]
  rcases hb with ⟨b1, b2⟩ | ⟨b1, b2⟩
  · rw [if_pos b1]
    exact ⟨_, rfl, b2⟩
  · rw [if_neg (by omega)]
    exact ⟨_, rfl, b2⟩
theorem degree7 {c : Nat → Int64} {f : Int → Int} (hf : E6 5 c f) : ∃ r, lX7_degreeOf_12 c FU 4 = some r ∧ dgz f r := by
  obtain ⟨b, e, hb⟩ := rune (fun n j (_ : Unit) => lX7_degreeOf_12 c n (z3 (4 - j))) (fun j _ => 0 ≤ j ∧ ∀ q, 4 - j < q → q < 5 → z6 (f q) = 0) (fun b : Int32 => dgz f b) 5
    (fun n j _ hj hp => by
      obtain ⟨p1, p2⟩ := hp
      have e := hf (4 - j) (by omega) (by omega)
      try dsimp only
      rw [lX7_degreeOf_12, if_neg (fun w => by have := (z3lt (by omega) (by omega) (by omega) (by omega)).1 (l3_0 ▸ w); omega), if_neg (gix (by omega) (by omega) (by decide)), z3nat (by omega) (by omega), e]
      by_cases c : z6 (f (4 - j)) = 0
      · rw [if_pos c]
        refine Or.inr ⟨(), ?_, by omega, fun q h1 h2 => ?_⟩
        · rw [show (-1 : Int32) = z3 (-1) from rfl, z3a, show (4 : Int) - j + -1 = 4 - (j + 1) by omega]
        · by_cases w : q = 4 - j
          · rw [w]
            exact c
          · exact p2 q (by omega) h2
      · rw [if_neg c]
        exact Or.inl ⟨_, rfl, Or.inl ⟨4 - j, by omega, by omega, rfl, c, p2⟩⟩)
    (fun n _ hp => by
      obtain ⟨p1, p2⟩ := hp
      try dsimp only
      rw [lX7_degreeOf_12, if_pos (by decide)]
      exact ⟨_, rfl, Or.inr ⟨rfl, fun q h1 h2 => p2 q (by omega) h2⟩⟩)
    5 FU 0 () (by omega) (by decide) ⟨by omega, fun q h1 h2 => by omega⟩
  exact ⟨b, e, hb⟩
theorem ok_12 : SOK q_12 := by
  intro u z h
  obtain ⟨a, hO, ⟨⟨hc, hd, hm, hw, hx, hy⟩, ⟨hv, ho, hwt⟩⟩, ⟨s0, s1, s2, tx, ty, tw⟩⟩ := h.1
  have O := hO
  obtain ⟨h0, h5, m0, m1, d0, d1, hr, hry, hrw, hi⟩ := O
  have hbw := hO.bw
  unfold q_12
  generalize qB (u 1) = fl
  obtain ⟨k1, k2, k3, k4, e1, e2⟩ := coefs7 hO ⟨s0, s1, s2, tx, ty, tw⟩ fl (a7_coefficients z.2.1) (a7_order z.2.1) (a7_product z.2.1) (a7_weights z.2.1)
  obtain ⟨r, r1, r2⟩ := degree3 (hv.fl fl)
  obtain ⟨r', r1', r2'⟩ := degree7 e2
  have ee := dgz_u r2' r2
  subst ee
  have m6 : mX6_degreeOf (a6_present_denominator z.1) (a6_present_numerator z.1) fl = some r' := by
    exact r1
  have m7 : mX7_degreeOf (a7_coefficients z.2.1) (a7_order z.2.1) (a7_product z.2.1) (a7_s z.2.1) (a7_thrown z.2.1) (a7_weights z.2.1) fl = some (r', k1, k2, k3, 0, k4) := by
    unfold mX7_degreeOf
    rw [e1, Option.bind_some]
    dsimp only
    rw [r1']
    rfl
  have E6 : ∃ σ1, s6_degreeOf z.1 fl = some (r', σ1) ∧ (∀ τ, JZ z.1 τ → JZ σ1 τ) := by
    apply Exists.intro
    refine ⟨?_, ?_⟩
    · unfold s6_degreeOf
      rw [m6]
      rfl
    · exact fun τ h => h
  have E7 : ∃ τ1, s7_degreeOf z.2.1 fl = some (r', τ1) ∧ (∀ σ, JZ σ z.2.1 → JZ σ τ1) := by
    apply Exists.intro
    refine ⟨?_, ?_⟩
    · unfold s7_degreeOf
      rw [m7]
      rfl
    · exact fun σ h => h
  obtain ⟨σ1, e6, j6⟩ := E6
  obtain ⟨τ1, e7, j7⟩ := E7
  exact fin0 e6 e7 (j7 _ (j6 _ h))
