/-! Step 22, extreme. -/
theorem cmp_t (a b c d : Int64) : ∃ r, mX1_compareWith a b c d = some r := by
  unfold mX1_compareWith mJ13_compare_74951
  split
  · split <;> exact ⟨_, rfl⟩
  · exact ⟨_, rfl⟩
def InvE (a : AZ) (f q rb : Int32) (bB bT rt ro : Int64) : Prop := (f = 0 ∧ rb = 13) ∨ (f = 1 ∧ ∃ y, -12 ≤ y ∧ y ≤ 12 ∧ kiz (zC a) (zX a) (zY a) (zw a) y ≤ 1 ∧ q = z3 y ∧ rb = z3 y ∧ bB = z6 (vB (zC a) (zX a) (zY a) (zw a) y) ∧ bT = z6 (vT (zC a) (zX a) (zY a) (zw a) y) ∧ rt = z6 (vT (zC a) (zX a) (zY a) (zw a) y) ∧ ro = z6 (vB (zC a) (zX a) (zY a) (zw a) y))
theorem ext_go {a : AZ} {fd fn : Nat → Int64} {s : Nat → Int32} {w1 : Nat → Int64} (hO : OkZ a) (hv : Crv (zC a) (zX a) (zY a) (zw a) fd fn) (h7 : N7 a s) (hw : E6 (zC a) w1 (zw a)) (fl : Int32) : ∀ (m : Nat) (x : Int), x + m = 13 → -12 ≤ x → ∀ i j : Nat, m < i → m < j → ∀ (f q rb : Int32) (aB aT bB bT rt ro lo up : Int64), InvE a f q rb bB bT rt ro →
    ∃ f1 q1 A1 A2 A3 A4 rb1 lo1 up1, lX6_extreme_8 fl fd fn i f q (z3 x) aB aT bB bT = some (f1, q1, A1, A2, A3, A4) ∧ lX7_extreme_16 fl s w1 j rb rt ro (z3 x) lo up = some (rb1, lo1, up1) ∧ ((f1 = 0 ∧ rb1 = 13) ∨ (f1 = 1 ∧ ∃ y : Int, -12 ≤ y ∧ y ≤ 12 ∧ q1 = z3 y ∧ rb1 = z3 y)) := by
  have O := hO
  obtain ⟨h0, h5, m0, m1, d0, d1, hr, hry, hrw, hi⟩ := O
  obtain ⟨s0, s1, s2, tx, ty, tw⟩ := h7
  have hbw := hO.bw
  intro m
  induction m with
  | zero =>
    intro x hx x0 i j hi' hj f q rb aB aT bB bT rt ro lo up I
    obtain ⟨i, rfl⟩ : ∃ q, i = q + 1 := ⟨i - 1, by omega⟩
    obtain ⟨j, rfl⟩ : ∃ q, j = q + 1 := ⟨j - 1, by omega⟩
    have c : (12 : Int32) < z3 x := by rw [l3_12]; exact (z3lt (by omega) (by omega) (by omega) (by omega)).2 (by omega)
    refine ⟨f, q, aB, aT, bB, bT, rb, lo, up, ?_, ?_, ?_⟩
    · rw [lX6_extreme_8, if_pos c]
    · rw [lX7_extreme_16, if_pos c]
    · rcases I with I | ⟨I1, y, y0, y1, -, I2, I3, -⟩
      · exact Or.inl I
      · exact Or.inr ⟨I1, y, y0, y1, I2, I3⟩
  | succ m ih =>
    intro x hx x0 i j hi' hj f q rb aB aT bB bT rt ro lo up I
    obtain ⟨i, rfl⟩ : ∃ q, i = q + 1 := ⟨i - 1, by omega⟩
    obtain ⟨j, rfl⟩ : ∃ q, j = q + 1 := ⟨j - 1, by omega⟩
    have c : ¬ (12 : Int32) < z3 x := fun w => by have := (z3lt (by omega) (by omega) (by omega) (by omega)).1 (l3_12 ▸ w); omega
    have kc := kiz_c (zC a) (zX a) (zY a) (zw a) x
    by_cases hk : kiz (zC a) (zX a) (zY a) (zw a) x ≤ 1
    · have P3 := put3y h0 h5 hr hry hbw hv x0 (by omega) hk aB aT
      have P7 := kind7y h0 h5 s2 tx ty hr hry hbw hw x0 (by omega) hk lo up
      have k1 : z3 (kiz (zC a) (zX a) (zY a) (zw a) x) ≤ 1 := by rw [l3_1]; exact (z3le (by omega) (by omega) (by omega) (by omega)).2 hk
      obtain ⟨vx, vx0, vx1⟩ := v_b h0 h5 hr hry hbw x0 (by omega) hk
      rcases I with ⟨I1, I2⟩ | ⟨I1, y, y0, y1, hl, I2, I3, I4, I5, I6, I7⟩
      · subst I1 I2
        obtain ⟨r, er⟩ := cmp_t (z6 (vB (zC a) (zX a) (zY a) (zw a) x)) (z6 (vT (zC a) (zX a) (zY a) (zw a) x)) bB bT
        rw [lX6_extreme_8, if_neg c, P3, Option.bind_some, if_neg n10, er, Option.bind_some, if_pos rfl, lX7_extreme_16, if_neg c, P7, Option.bind_some, if_pos k1, if_pos (show (12 : Int32) < 13 by decide), l3_1, z3a]
        exact ih (x + 1) (by omega) (by omega) i j (by omega) (by omega) 1 (z3 x) (z3 x) _ _ _ _ _ _ _ _ (Or.inr ⟨rfl, x, x0, by omega, hk, rfl, rfl, rfl, rfl, rfl, rfl⟩)
      · subst I1 I2 I3 I4 I5 I6 I7
        have ny : ¬ (12 : Int32) < z3 y := fun w => by have := (z3lt (by omega) (by omega) (by omega) (by omega)).1 (l3_12 ▸ w); omega
        have X1 := crossB hO hO rfl rfl rfl x0 (by omega : x ≤ 12) y0 y1 hk hl
        have X2 := crossB hO hO rfl rfl rfl y0 y1 x0 (by omega : x ≤ 12) hl hk
        obtain ⟨vy, vy0, vy1⟩ := v_b h0 h5 hr hry hbw y0 y1 hl
        have CM := cmp3 (a := vT (zC a) (zX a) (zY a) (zw a) x) (b := vB (zC a) (zX a) (zY a) (zw a) x) (c := vT (zC a) (zX a) (zY a) (zw a) y) (d := vB (zC a) (zX a) (zY a) (zw a) y) (by omega) (by omega) (by omega) (by omega)
        have GA := grt7 (a := vT (zC a) (zX a) (zY a) (zw a) x) (b := vB (zC a) (zX a) (zY a) (zw a) x) (c := vT (zC a) (zX a) (zY a) (zw a) y) (d := vB (zC a) (zX a) (zY a) (zw a) y) (by omega) (by omega) vx0 (by omega) (by omega) (by omega) vy0 (by omega)
        have GB := grt7 (a := vT (zC a) (zX a) (zY a) (zw a) y) (b := vB (zC a) (zX a) (zY a) (zw a) y) (c := vT (zC a) (zX a) (zY a) (zw a) x) (d := vB (zC a) (zX a) (zY a) (zw a) x) (by omega) (by omega) vy0 (by omega) (by omega) (by omega) vx0 (by omega)
        have keep : InvE a 1 (z3 y) (z3 y) (z6 (vB (zC a) (zX a) (zY a) (zw a) y)) (z6 (vT (zC a) (zX a) (zY a) (zw a) y)) (z6 (vT (zC a) (zX a) (zY a) (zw a) y)) (z6 (vB (zC a) (zX a) (zY a) (zw a) y)) := Or.inr ⟨rfl, y, y0, y1, hl, rfl, rfl, rfl, rfl, rfl, rfl⟩
        have take : InvE a 1 (z3 x) (z3 x) (z6 (vB (zC a) (zX a) (zY a) (zw a) x)) (z6 (vT (zC a) (zX a) (zY a) (zw a) x)) (z6 (vT (zC a) (zX a) (zY a) (zw a) x)) (z6 (vB (zC a) (zX a) (zY a) (zw a) x)) := Or.inr ⟨rfl, x, x0, by omega, hk, rfl, rfl, rfl, rfl, rfl, rfl⟩
        generalize vT (zC a) (zX a) (zY a) (zw a) x * vB (zC a) (zX a) (zY a) (zw a) y = A at *
        generalize vT (zC a) (zX a) (zY a) (zw a) y * vB (zC a) (zX a) (zY a) (zw a) x = B at *
        rw [lX6_extreme_8, if_neg c, P3, Option.bind_some, if_neg n10, CM, Option.bind_some, if_neg n10, lX7_extreme_16, if_neg c, P7, Option.bind_some, if_pos k1, if_neg ny]
        by_cases hf : fl = 0
        · rw [if_pos hf, if_pos hf, GB, Option.bind_some]
          by_cases q : A < B
          · rw [if_neg (show ¬ B < A by omega), if_pos q, if_pos q, if_neg (show ¬ (0 : Int32) ≤ -1 by decide), if_neg n10, l3_1, z3a]
            exact ih (x + 1) (by omega) (by omega) i j (by omega) (by omega) 1 (z3 x) (z3 x) _ _ _ _ _ _ _ _ take
          · have e0 : (0 : Int32) ≤ if B < A then 1 else if A < B then -1 else 0 := by
              rw [if_neg q]
              split <;> decide
            rw [if_pos e0, if_neg q, if_pos rfl, l3_1, z3a]
            exact ih (x + 1) (by omega) (by omega) i j (by omega) (by omega) 1 (z3 y) (z3 y) _ _ _ _ _ _ _ _ keep
        · rw [if_neg hf, if_neg hf, GA, Option.bind_some]
          by_cases q : B < A
          · rw [if_pos q, if_pos q, if_neg (show ¬ (1 : Int32) ≤ 0 by decide), if_neg n10, l3_1, z3a]
            exact ih (x + 1) (by omega) (by omega) i j (by omega) (by omega) 1 (z3 x) (z3 x) _ _ _ _ _ _ _ _ take
          · have e0 : (if B < A then (1 : Int32) else if A < B then -1 else 0) ≤ 0 := by
              rw [if_neg q]
              split <;> decide
            rw [if_pos e0, if_neg q, if_pos rfl, l3_1, z3a]
            exact ih (x + 1) (by omega) (by omega) i j (by omega) (by omega) 1 (z3 y) (z3 y) _ _ _ _ _ _ _ _ keep
    · have P3 := put3n h0 h5 hr hry hbw hv x0 (by omega) hk aB aT
      have P7 := kind7n h0 h5 s2 tx ty hr hry hbw hw x0 (by omega) hk lo up
      have k1 : ¬ z3 (kiz (zC a) (zX a) (zY a) (zw a) x) ≤ 1 := fun w => by have := (z3le (by omega) (by omega) (by omega) (by omega)).1 (l3_1 ▸ w); omega
      rw [lX6_extreme_8, if_neg c, P3, Option.bind_some, if_pos rfl, lX7_extreme_16, if_neg c, P7, Option.bind_some, if_neg k1, l3_1, z3a]
      exact ih (x + 1) (by omega) (by omega) i j (by omega) (by omega) f q rb _ _ _ _ _ _ _ _ I
theorem ok_22 : SOK q_22 := by
  intro u z h
  obtain ⟨a, hO, ⟨⟨hc, hd, hm, hw, hx, hy⟩, ⟨hv, ho, hwt⟩⟩, ⟨s0, s1, s2, tx, ty, tw⟩⟩ := h.1
  have O := hO
  obtain ⟨h0, h5, m0, m1, d0, d1, hr, hry, hrw, hi⟩ := O
  have hbw := hO.bw
  unfold q_22
  generalize qB (u 1) = fl
  obtain ⟨o1, w1, e1, e2, e3⟩ := lw7 hO ⟨s0, s1, s2, tx, ty, tw⟩ (a7_order z.2.1) (a7_weights z.2.1)
  obtain ⟨f1, q1, A1, A2, A3, A4, rb1, lo1, up1, E1, E2, E3⟩ := ext_go hO hv ⟨s0, s1, s2, tx, ty, tw⟩ e3 fl 25 (-12) (by omega) (by omega) FU FU (fuel (by omega)) (fuel (by omega)) 0 0 13 (a6_answer_bottom z.1) (a6_answer_top z.1) (a6_best_bottom z.1) (a6_best_top z.1) 0 1 (a7_low z.2.1) (a7_up z.2.1) (Or.inl ⟨rfl, rfl⟩)
  have E1 : lX6_extreme_8 fl (a6_present_denominator z.1) (a6_present_numerator z.1) FU 0 0 (-12) (a6_answer_bottom z.1) (a6_answer_top z.1) (a6_best_bottom z.1) (a6_best_top z.1) = some (f1, q1, A1, A2, A3, A4) := E1
  have E2 : lX7_extreme_16 fl (a7_s z.2.1) w1 FU 13 0 1 (-12) (a7_low z.2.1) (a7_up z.2.1) = some (rb1, lo1, up1) := E2
  rcases E3 with ⟨rfl, rfl⟩ | ⟨rfl, y, y0, y1, rfl, rfl⟩
  · have m6 : mX6_extreme (a6_answer_bottom z.1) (a6_answer_top z.1) (a6_best_bottom z.1) (a6_best_top z.1) (a6_present_denominator z.1) (a6_present_numerator z.1) fl = some (4, 0, A1, A2, A3, A4) := by
      unfold mX6_extreme
      rw [E1, Option.bind_some, if_pos rfl]
    have m7 : mX7_extreme (a7_low z.2.1) (a7_order z.2.1) (a7_s z.2.1) (a7_thrown z.2.1) (a7_up z.2.1) (a7_weights z.2.1) fl = some (0, lo1, o1, 1, up1, w1) := by
      unfold mX7_extreme
      rw [e1, Option.bind_some, E2, Option.bind_some, if_pos (show (12 : Int32) < 13 by decide), gd0]
      rfl
    have E6 : ∃ σ1 o1, h_extreme z.1 fl z.2.2.1 = some (1, σ1, o1) ∧ (o1 0 = o1 0) ∧ ((1 : Int32) = 0 → o1 = vp_updL z.2.2.1 0 (0)) ∧ ∀ τ, JZ z.1 τ → JZ σ1 τ := by
      apply Exists.intro
      apply Exists.intro
      refine ⟨?_, rfl, ?_, ?_⟩
      · unfold h_extreme s6_extreme
        rw [m6]
        rfl
      · exact fun w => absurd w (by decide)
      · exact fun τ h => h
    have E7 : ∃ v1 τ1, s7_extreme z.2.1 fl = some (v1, τ1) ∧ a7_thrown τ1 = 1 ∧ ((1 : Int32) = 0 → (0) = (Int32.toInt64) v1) ∧ ∀ σ, JZ σ z.2.1 → JZ σ τ1 := by
      apply Exists.intro
      apply Exists.intro
      refine ⟨?_, ?_, ?_, ?_⟩
      · unfold s7_extreme
        rw [m7]
        rfl
      · rfl
      · exact fun w => absurd w (by decide)
      · exact fun σ h => h
    obtain ⟨σ1, o1, e6, -, v6, j6⟩ := E6
    obtain ⟨w1, τ1, e7, t7, v7, j7⟩ := E7
    exact fin1 (Int32.toInt64) e6 e7 t7 (fun w => by rw [v6 w, updL_s]; exact v7 w) (j7 _ (j6 _ h))
  · have ny : ¬ (12 : Int32) < z3 y := fun w => by have := (z3lt (by omega) (by omega) (by omega) (by omega)).1 (l3_12 ▸ w); omega
    have m6 : mX6_extreme (a6_answer_bottom z.1) (a6_answer_top z.1) (a6_best_bottom z.1) (a6_best_top z.1) (a6_present_denominator z.1) (a6_present_numerator z.1) fl = some (0, z3 y, A1, A2, A3, A4) := by
      unfold mX6_extreme
      rw [E1, Option.bind_some, if_neg n10]
    have m7 : mX7_extreme (a7_low z.2.1) (a7_order z.2.1) (a7_s z.2.1) (a7_thrown z.2.1) (a7_up z.2.1) (a7_weights z.2.1) fl = some (z3 y, lo1, o1, 0, up1, w1) := by
      unfold mX7_extreme
      rw [e1, Option.bind_some, E2, Option.bind_some, if_neg ny, gd1, Option.bind_some, if_neg n10]
    have E6 : ∃ σ1 o1, h_extreme z.1 fl z.2.2.1 = some (0, σ1, o1) ∧ (o1 0 = o1 0) ∧ ((0 : Int32) = 0 → o1 = vp_updL z.2.2.1 0 (Int32.toInt64 (z3 y))) ∧ ∀ τ, JZ z.1 τ → JZ σ1 τ := by
      apply Exists.intro
      apply Exists.intro
      refine ⟨?_, rfl, ?_, ?_⟩
      · unfold h_extreme s6_extreme
        rw [m6]
        rfl
      · exact fun _ => rfl
      · exact fun τ h => h
    have E7 : ∃ v1 τ1, s7_extreme z.2.1 fl = some (v1, τ1) ∧ a7_thrown τ1 = 0 ∧ ((0 : Int32) = 0 → (Int32.toInt64 (z3 y)) = (Int32.toInt64) v1) ∧ ∀ σ, JZ σ z.2.1 → JZ σ τ1 := by
      apply Exists.intro
      apply Exists.intro
      refine ⟨?_, ?_, ?_, ?_⟩
      · unfold s7_extreme
        rw [m7]
        rfl
      · rfl
      · exact fun _ => rfl
      · exact fun σ h => h
    obtain ⟨σ1, o1, e6, -, v6, j6⟩ := E6
    obtain ⟨w1, τ1, e7, t7, v7, j7⟩ := E7
    exact fin1 (Int32.toInt64) e6 e7 t7 (fun w => by rw [v6 w, updL_s]; exact v7 w) (j7 _ (j6 _ h))
