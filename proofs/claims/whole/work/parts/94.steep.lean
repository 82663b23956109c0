/-! Step 25, steepest. -/
def InvS (a : AZ) (q rb : Int32) (bB bT rt ro : Int64) : Prop := (q = -1 ∧ rb = -1) ∨ (∃ y, 0 ≤ y ∧ y < zC a ∧ zw a y ≠ 0 ∧ q = z3 y ∧ rb = z3 y ∧ bB = z6 (rdB (sNz a y) (sMz a y)) ∧ bT = z6 (rdT (sNz a y) (sMz a y)) ∧ rt = z6 (rdT (sNz a y) (sMz a y)) ∧ ro = z6 (rdB (sNz a y) (sMz a y)))
theorem stp_go {a : AZ} {xs ys s : Nat → Int32} {w w1 : Nat → Int64} (hO : OkZ a) (hx : En 0 (zC a) xs (zX a)) (hy : En 0 (zC a) ys (zY a)) (h7 : N7 a s) (hw : E6 (zC a) w (zw a)) (hw1 : E6 (zC a) w1 (zw a)) : ∀ (m : Nat) (t : Int), t + m = zC a → 0 ≤ t → ∀ i j : Nat, m < i → m < j → ∀ (q rb : Int32) (aB aT bB bT rt ro lo up : Int64), InvS a q rb bB bT rt ro →
    ∃ q1 A1 A2 A3 A4 rb1 lo1 up1, lX6_steepest_4 (z3 (zC a)) xs ys w i q (z3 t) aB aT bB bT = some (q1, A1, A2, A3, A4) ∧ lX7_steepest_14 s w1 j rb rt ro (z3 t) lo up = some (rb1, lo1, up1) ∧ ((q1 = -1 ∧ rb1 = -1) ∨ (∃ y : Int, 0 ≤ y ∧ y < 5 ∧ q1 = z3 y ∧ rb1 = z3 y)) := by
  have hbw := hO.bw
  have O := hO
  obtain ⟨h0, h5, m0, m1, d0, d1, hr, hry, hrw, hi⟩ := O
  obtain ⟨s0, s1, s2, tx, ty, tw⟩ := h7
  obtain ⟨g2, f2⟩ := s2c s2
  intro m
  induction m with
  | zero =>
    intro t ht t0 i j hi' hj q rb aB aT bB bT rt ro lo up I
    obtain ⟨i, rfl⟩ : ∃ q, i = q + 1 := ⟨i - 1, by omega⟩
    obtain ⟨j, rfl⟩ : ∃ q, j = q + 1 := ⟨j - 1, by omega⟩
    have cc : z3 (zC a) ≤ z3 t := (z3le (by omega) (by omega) (by omega) (by omega)).2 (by omega)
    refine ⟨q, aB, aT, bB, bT, rb, lo, up, ?_, ?_, ?_⟩
    · rw [lX6_steepest_4]
      unfold mX3_size
      rw [Option.bind_some, if_pos cc]
    · rw [lX7_steepest_14, if_neg g2, f2, if_pos cc]
    · rcases I with I | ⟨y, y0, y1, -, I2, I3, -⟩
      · exact Or.inl I
      · exact Or.inr ⟨y, y0, by omega, I2, I3⟩
  | succ m ih =>
    intro t ht t0 i j hi' hj q rb aB aT bB bT rt ro lo up I
    obtain ⟨i, rfl⟩ : ∃ q, i = q + 1 := ⟨i - 1, by omega⟩
    obtain ⟨j, rfl⟩ : ∃ q, j = q + 1 := ⟨j - 1, by omega⟩
    have t1 : t < zC a := by omega
    have cc : ¬ z3 (zC a) ≤ z3 t := fun w => by have := (z3le (by omega) (by omega) (by omega) (by omega)).1 w; omega
    have wb := hbw t t0 t1
    have e3 := hw t t0 t1
    have e7 := hw1 t t0 t1
    have gi : ¬ (z3 t < 0 ∨ 5 ≤ Int32.toNatClampNeg (z3 t)) := gix t0 (by omega) (by decide)
    have nt := z3nat (a := t) (by omega) (by omega)
    have S3 : lX6_steepest_4 (z3 (zC a)) xs ys w (i + 1) q (z3 t) aB aT bB bT = if z6 (zw a t) = 0 then lX6_steepest_4 (z3 (zC a)) xs ys w i q (z3 (t + 1)) aB aT bB bT else (mX0_putSlope (z3 (zC a)) xs ys w aB aT (z3 t)).bind fun r6 => if q = -1 then (mX1_copyFrom bB bT r6.1 r6.2).bind fun r8 => lX6_steepest_4 (z3 (zC a)) xs ys w i (z3 t) (z3 (t + 1)) r6.1 r6.2 r8.1 r8.2 else (mX1_compareWith r6.1 r6.2 bB bT).bind fun r9 => if r9 ≤ 0 then lX6_steepest_4 (z3 (zC a)) xs ys w i q (z3 (t + 1)) r6.1 r6.2 bB bT else (mX1_copyFrom bB bT r6.1 r6.2).bind fun r11 => lX6_steepest_4 (z3 (zC a)) xs ys w i (z3 t) (z3 (t + 1)) r6.1 r6.2 r11.1 r11.2 := by
      have q1 : z3 t + 1 = z3 (t + 1) := by rw [l3_1, z3a]
      rw [lX6_steepest_4]
      unfold mX3_size
      rw [Option.bind_some, if_neg cc, weightOf3 h5 t0 t1, Option.bind_some, e3, q1]
    have S7 : lX7_steepest_14 s w1 (j + 1) rb rt ro (z3 t) lo up = if z6 (zw a t) = 0 then lX7_steepest_14 s w1 j rb rt ro (z3 (t + 1)) lo up else (mX7_laysOthers lo s up w1 (z3 t) 1).bind fun r7 => if rb = -1 then lX7_steepest_14 s w1 j (z3 t) r7.2 r7.1 (z3 (t + 1)) r7.1 r7.2 else (mX7_isGreater r7.2 r7.1 rt ro).bind fun r9 => if r9 = 0 then lX7_steepest_14 s w1 j rb rt ro (z3 (t + 1)) r7.1 r7.2 else lX7_steepest_14 s w1 j (z3 t) r7.2 r7.1 (z3 (t + 1)) r7.1 r7.2 := by
      have q1 : z3 t + 1 = z3 (t + 1) := by rw [l3_1, z3a]
      rw [lX7_steepest_14, if_neg g2, f2, if_neg cc, if_neg gi, nt, e7, q1]
    rw [S3, S7]
    by_cases wz : zw a t = 0
    · have z : z6 (zw a t) = 0 := by rw [wz]; rfl
      rw [if_pos z, if_pos z]
      exact ih (t + 1) (by omega) (by omega) i j (by omega) (by omega) q rb _ _ _ _ _ _ _ _ I
    · have z : ¬ z6 (zw a t) = 0 := fun w => wz ((z6eq (by omega) (by omega) (by omega) (by omega)).1 (Eq.trans w l6_0))
      have A3 : mX0_putSlope (z3 (zC a)) xs ys w aB aT (z3 t) = some (z6 (rdB (sNz a t) (sMz a t)), z6 (rdT (sNz a t) (sMz a t))) := slo3 h0 h5 hx hy hr hry hi hw hbw t0 t1 wz aB aT
      have A7 : mX7_laysOthers lo s up w1 (z3 t) 1 = some (z6 (rdB (sNz a t) (sMz a t)), z6 (rdT (sNz a t) (sMz a t))) := oth7 (F := fun j => zY a j - zY a t) h0 h5 s2 tx ty hr hry hi hw1 hbw t0 t1 (fl := 1) (Or.inr ⟨rfl, rfl⟩) wz lo up
      have Mt : sMz a t ≠ 0 := Int.mul_ne_zero wz (ozz_n hi t0 t1)
      have take : InvS a (z3 t) (z3 t) (z6 (rdB (sNz a t) (sMz a t))) (z6 (rdT (sNz a t) (sMz a t))) (z6 (rdT (sNz a t) (sMz a t))) (z6 (rdB (sNz a t) (sMz a t))) := Or.inr ⟨t, t0, t1, wz, rfl, rfl, rfl, rfl, rfl, rfl⟩
      rw [if_neg z, if_neg z, A3, A7, Option.bind_some, Option.bind_some]
      have cp : ∀ u v x y : Int64, mX1_copyFrom u v x y = some (x, y) := fun _ _ _ _ => rfl
      rcases I with ⟨I1, I2⟩ | ⟨y, y0, y1, wy, I2, I3, I4, I5, I6, I7⟩
      · subst I1 I2
        rw [if_pos rfl, if_pos rfl, cp, Option.bind_some]
        exact ih (t + 1) (by omega) (by omega) i j (by omega) (by omega) (z3 t) (z3 t) _ _ _ _ _ _ _ _ take
      · have keep : InvS a q rb bB bT rt ro := Or.inr ⟨y, y0, y1, wy, I2, I3, I4, I5, I6, I7⟩
        subst I2 I3 I4 I5 I6 I7
        have My : sMz a y ≠ 0 := Int.mul_ne_zero wy (ozz_n hi y0 y1)
        obtain ⟨X1, B1, B2, B3⟩ := crossS hO t0 t1 y0 y1 Mt My
        obtain ⟨X2, C1, C2, C3⟩ := crossS hO y0 y1 t0 t1 My Mt
        have ny := z3m1 y0 (by omega)
        have CM := cmp3 (a := rdT (sNz a t) (sMz a t)) (b := rdB (sNz a t) (sMz a t)) (c := rdT (sNz a y) (sMz a y)) (d := rdB (sNz a y) (sMz a y)) (by omega) (by omega) (by omega) (by omega)
        have GA := grt7 (a := rdT (sNz a t) (sMz a t)) (b := rdB (sNz a t) (sMz a t)) (c := rdT (sNz a y) (sMz a y)) (d := rdB (sNz a y) (sMz a y)) (by omega) (by omega) B1 (by omega) (by omega) (by omega) C1 (by omega)
        generalize rdT (sNz a t) (sMz a t) * rdB (sNz a y) (sMz a y) = A at *
        generalize rdT (sNz a y) (sMz a y) * rdB (sNz a t) (sMz a t) = B at *
        rw [if_neg ny, if_neg ny, CM, Option.bind_some, GA, Option.bind_some]
        by_cases qq : B < A
        · rw [if_pos qq, if_pos qq, if_neg (show ¬ (1 : Int32) ≤ 0 by decide), if_neg n10, cp, Option.bind_some]
          exact ih (t + 1) (by omega) (by omega) i j (by omega) (by omega) (z3 t) (z3 t) _ _ _ _ _ _ _ _ take
        · have e0 : (if B < A then (1 : Int32) else if A < B then -1 else 0) ≤ 0 := by
            rw [if_neg qq]
            split <;> decide
          rw [if_pos e0, if_neg qq, if_pos rfl]
          exact ih (t + 1) (by omega) (by omega) i j (by omega) (by omega) (z3 y) (z3 y) _ _ _ _ _ _ _ _ keep
theorem ok_25 : SOK q_25 := by
  intro u z h
  obtain ⟨a, hO, ⟨⟨hc, hd, hm, hw, hx, hy⟩, ⟨hv, ho, hwt⟩⟩, ⟨s0, s1, s2, tx, ty, tw⟩⟩ := h.1
  have O := hO
  obtain ⟨h0, h5, m0, m1, d0, d1, hr, hry, hrw, hi⟩ := O
  have hbw := hO.bw
  unfold q_25
  obtain ⟨o1, w1, e1, e2, e3⟩ := lw7 hO ⟨s0, s1, s2, tx, ty, tw⟩ (a7_order z.2.1) (a7_weights z.2.1)
  obtain ⟨q1, A1, A2, A3, A4, rb1, lo1, up1, E1, E2, E3⟩ := stp_go hO hx hy ⟨s0, s1, s2, tx, ty, tw⟩ hwt e3 (zC a).toNat 0 (by omega) (by omega) FU FU (fuel (by omega)) (fuel (by omega)) (-1) (-1) (a6_answer_bottom z.1) (a6_answer_top z.1) (a6_best_bottom z.1) (a6_best_top z.1) 0 1 (a7_low z.2.1) (a7_up z.2.1) (Or.inl ⟨rfl, rfl⟩)
  rw [← hc] at E1
  have E1 : lX6_steepest_4 (a6_present_nodes_count z.1) (a6_present_nodes_xs z.1) (a6_present_nodes_ys z.1) (a6_present_weights z.1) FU (-1) 0 (a6_answer_bottom z.1) (a6_answer_top z.1) (a6_best_bottom z.1) (a6_best_top z.1) = some (q1, A1, A2, A3, A4) := E1
  have E2 : lX7_steepest_14 (a7_s z.2.1) w1 FU (-1) 0 1 0 (a7_low z.2.1) (a7_up z.2.1) = some (rb1, lo1, up1) := E2
  rcases E3 with ⟨rfl, rfl⟩ | ⟨y, y0, y1, rfl, rfl⟩
  · have m6 : mX6_steepest (a6_answer_bottom z.1) (a6_answer_top z.1) (a6_best_bottom z.1) (a6_best_top z.1) (a6_present_nodes_count z.1) (a6_present_nodes_xs z.1) (a6_present_nodes_ys z.1) (a6_present_weights z.1)  = some (4, 0, A1, A2, A3, A4) := by
      unfold mX6_steepest
      rw [E1, Option.bind_some, if_pos rfl]
    have m7 : mX7_steepest (a7_low z.2.1) (a7_order z.2.1) (a7_s z.2.1) (a7_thrown z.2.1) (a7_up z.2.1) (a7_weights z.2.1)  = some (0, lo1, o1, 1, up1, w1) := by
      unfold mX7_steepest
      rw [e1, Option.bind_some, E2, Option.bind_some, if_pos rfl, gd0]
      rfl
    have E6 : ∃ σ1 o1, h_steepest z.1  z.2.2.1 = some (1, σ1, o1) ∧ (o1 0 = o1 0) ∧ ((1 : Int32) = 0 → o1 = vp_updL z.2.2.1 0 (0)) ∧ ∀ τ, JZ z.1 τ → JZ σ1 τ := by
      apply Exists.intro
      apply Exists.intro
      refine ⟨?_, rfl, ?_, ?_⟩
      · unfold h_steepest s6_steepest
        rw [m6]
        rfl
      · exact fun w => absurd w (by decide)
      · exact fun τ h => h
    have E7 : ∃ v1 τ1, s7_steepest z.2.1  = some (v1, τ1) ∧ a7_thrown τ1 = 1 ∧ ((1 : Int32) = 0 → (0) = (Int32.toInt64) v1) ∧ ∀ σ, JZ σ z.2.1 → JZ σ τ1 := by
      apply Exists.intro
      apply Exists.intro
      refine ⟨?_, ?_, ?_, ?_⟩
      · unfold s7_steepest
        rw [m7]
        rfl
      · rfl
      · exact fun w => absurd w (by decide)
      · exact fun σ h => h
    obtain ⟨σ1, o1, e6, -, v6, j6⟩ := E6
    obtain ⟨w1, τ1, e7, t7, v7, j7⟩ := E7
    exact fin1 (Int32.toInt64) e6 e7 t7 (fun w => by rw [v6 w, updL_s]; exact v7 w) (j7 _ (j6 _ h))
  · have ny := z3m1 y0 (by omega)
    have m6 : mX6_steepest (a6_answer_bottom z.1) (a6_answer_top z.1) (a6_best_bottom z.1) (a6_best_top z.1) (a6_present_nodes_count z.1) (a6_present_nodes_xs z.1) (a6_present_nodes_ys z.1) (a6_present_weights z.1)  = some (0, z3 y, A1, A2, A3, A4) := by
      unfold mX6_steepest
      rw [E1, Option.bind_some, if_neg ny]
    have m7 : mX7_steepest (a7_low z.2.1) (a7_order z.2.1) (a7_s z.2.1) (a7_thrown z.2.1) (a7_up z.2.1) (a7_weights z.2.1)  = some (z3 y, lo1, o1, 0, up1, w1) := by
      unfold mX7_steepest
      rw [e1, Option.bind_some, E2, Option.bind_some, if_neg ny, gd1, Option.bind_some, if_neg n10]
    have E6 : ∃ σ1 o1, h_steepest z.1  z.2.2.1 = some (0, σ1, o1) ∧ (o1 0 = o1 0) ∧ ((0 : Int32) = 0 → o1 = vp_updL z.2.2.1 0 (Int32.toInt64 (z3 y))) ∧ ∀ τ, JZ z.1 τ → JZ σ1 τ := by
      apply Exists.intro
      apply Exists.intro
      refine ⟨?_, rfl, ?_, ?_⟩
      · unfold h_steepest s6_steepest
        rw [m6]
        rfl
      · exact fun _ => rfl
      · exact fun τ h => h
    have E7 : ∃ v1 τ1, s7_steepest z.2.1  = some (v1, τ1) ∧ a7_thrown τ1 = 0 ∧ ((0 : Int32) = 0 → (Int32.toInt64 (z3 y)) = (Int32.toInt64) v1) ∧ ∀ σ, JZ σ z.2.1 → JZ σ τ1 := by
      apply Exists.intro
      apply Exists.intro
      refine ⟨?_, ?_, ?_, ?_⟩
      · unfold s7_steepest
        rw [m7]
        rfl
      · rfl
      · exact fun _ => rfl
      · exact fun σ h => h
    obtain ⟨σ1, o1, e6, -, v6, j6⟩ := E6
    obtain ⟨w1, τ1, e7, t7, v7, j7⟩ := E7
    exact fin1 (Int32.toInt64) e6 e7 t7 (fun w => by rw [v6 w, updL_s]; exact v7 w) (j7 _ (j6 _ h))
