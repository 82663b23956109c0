/-! Steps that only read: value, isMet, missed, weightSum, degreeOf. -/
theorem n10 : ¬ (1 : Int32) = 0 := by decide
theorem told7 (l u : Int64) {y : Int} (h : 0 ≤ y ∧ y ≤ 1) : mX7_told l u (z3 y) = some (if y = 0 then u else l) := by
  have : y = 0 ∨ y = 1 := by omega
  rcases this with rfl | rfl <;> rfl
theorem part3 (b t : Int64) {y : Int} (h : 0 ≤ y ∧ y ≤ 1) : mX1_part b t (z3 y) = some (if y = 0 then t else b) := by
  have : y = 0 ∨ y = 1 := by omega
  rcases this with rfl | rfl <;> rfl
section NVS
variable {C x : Int} {X Y wt : Int → Int} {fd fn : Nat → Int64}
theorem nv_y (h0 : 0 ≤ C) (h5 : C ≤ 5) (hr : Rz C (-9) 9 X) (hry : Rz C (-20) 20 Y) (hb : Bw C wt) (hc : Crv C X Y wt fd fn) (x0 : -12 ≤ x) (x1 : x ≤ 12) (hk : kiz C X Y wt x ≤ 1) (u v : Int64) : mX6_needValue u v fd fn (z3 x) = some (0, z6 (vB C X Y wt x), z6 (vT C X Y wt x)) := by
  unfold mX6_needValue
  rw [put3y h0 h5 hr hry hb hc x0 x1 hk]
  rfl
theorem nv_n (h0 : 0 ≤ C) (h5 : C ≤ 5) (hr : Rz C (-9) 9 X) (hry : Rz C (-20) 20 Y) (hb : Bw C wt) (hc : Crv C X Y wt fd fn) (x0 : -12 ≤ x) (x1 : x ≤ 12) (hk : ¬ kiz C X Y wt x ≤ 1) (u v : Int64) : mX6_needValue u v fd fn (z3 x) = some (4, u, v) := by
  unfold mX6_needValue
  rw [put3n h0 h5 hr hry hb hc x0 x1 hk]
  rfl
end NVS
theorem ok_15 : SOK q_15 := by
  intro u z h
  obtain ⟨a, hO, ⟨⟨hc, hd, hm, hw, hx, hy⟩, ⟨hv, ho, hwt⟩⟩, ⟨s0, s1, s2, tx, ty, tw⟩⟩ := h.1
  have O := hO
  obtain ⟨h0, h5, m0, m1, d0, d1, hr, hry, hrw, hi⟩ := O
  have hbw := hO.bw
  obtain ⟨x, x0, x1, hu⟩ := ex3 (u 1)
  obtain ⟨y, y0, y1, hu2⟩ := ex3 (u 2)
  unfold q_15
  rw [hu, hu2]
  have tw12 : (12 : Int32) = z3 12 := rfl
  by_cases c1 : -12 ≤ x ∧ x ≤ 12
  · by_cases c2 : 0 ≤ y ∧ y ≤ 1
    · by_cases c3 : kiz (zC a) (zX a) (zY a) (zw a) x ≤ 1
      · obtain ⟨o1, w1, e1⟩ := hasV_y hO ⟨s0, s1, s2, tx, ty, tw⟩ c1.1 c1.2 c3 (a7_low z.2.1) (a7_up z.2.1) (a7_order z.2.1) (a7_weights z.2.1)
        have m6 : mX6_value (a6_answer_bottom z.1) (a6_answer_top z.1) (a6_present_denominator z.1) (a6_present_numerator z.1) (z3 x) (z3 y) = some (0, (if y = 0 then z6 (vT (zC a) (zX a) (zY a) (zw a) x) else z6 (vB (zC a) (zX a) (zY a) (zw a) x)), z6 (vB (zC a) (zX a) (zY a) (zw a) x), z6 (vT (zC a) (zX a) (zY a) (zw a) x)) := by
          unfold mX6_value
          rw [tw12, nw_y c1 x0 x1 (by omega) (by omega), Option.bind_some, if_pos rfl, np_y c2 y0 y1, Option.bind_some, if_pos rfl, nv_y h0 h5 hr hry hbw hv c1.1 c1.2 c3, Option.bind_some, if_pos rfl, part3 _ _ c2]
          rfl
        have m7 : mX7_value (a7_low z.2.1) (a7_order z.2.1) (a7_s z.2.1) (a7_thrown z.2.1) (a7_up z.2.1) (a7_weights z.2.1) (z3 x) (z3 y) = some ((if y = 0 then z6 (vT (zC a) (zX a) (zY a) (zw a) x) else z6 (vB (zC a) (zX a) (zY a) (zw a) x)), z6 (vB (zC a) (zX a) (zY a) (zw a) x), o1, 0, z6 (vT (zC a) (zX a) (zY a) (zw a) x), w1) := by
          unfold mX7_value
          rw [iw_y c1 x0 x1, Option.bind_some, if_neg (by decide), ip_y c2 y0 y1, Option.bind_some, if_neg (by decide), if_neg (by decide), e1, Option.bind_some, if_neg n10, g2_11, Option.bind_some, if_neg n10, told7 _ _ c2]
          rfl
        have E6 : ∃ σ1 o1, h_value z.1 (z3 x) (z3 y) z.2.2.1 = some (0, σ1, o1) ∧ (o1 0 = o1 0) ∧ ((0 : Int32) = 0 → o1 = vp_updL z.2.2.1 0 (if y = 0 then z6 (vT (zC a) (zX a) (zY a) (zw a) x) else z6 (vB (zC a) (zX a) (zY a) (zw a) x))) ∧ ∀ τ, JZ z.1 τ → JZ σ1 τ := by
          apply Exists.intro
          apply Exists.intro
          refine ⟨?_, rfl, ?_, ?_⟩
          · unfold h_value s6_value
            rw [m6]
            rfl
          · exact fun _ => rfl
          · exact fun τ h => h
        have E7 : ∃ v1 τ1, s7_value z.2.1 (z3 x) (z3 y) = some (v1, τ1) ∧ a7_thrown τ1 = 0 ∧ ((0 : Int32) = 0 → (if y = 0 then z6 (vT (zC a) (zX a) (zY a) (zw a) x) else z6 (vB (zC a) (zX a) (zY a) (zw a) x)) = (fun x => x) v1) ∧ ∀ σ, JZ σ z.2.1 → JZ σ τ1 := by
          apply Exists.intro
          apply Exists.intro
          refine ⟨?_, ?_, ?_, ?_⟩
          · unfold s7_value
            rw [m7]
            rfl
          · rfl
          · exact fun _ => rfl
          · exact fun σ h => h
        obtain ⟨σ1, o1, e6, -, v6, j6⟩ := E6
        obtain ⟨w1, τ1, e7, t7, v7, j7⟩ := E7
        exact fin1 (fun x => x) e6 e7 t7 (fun w => by rw [v6 w]; exact v7 w) (j7 _ (j6 _ h))
      · obtain ⟨o1, w1, e1⟩ := hasV_n hO ⟨s0, s1, s2, tx, ty, tw⟩ c1.1 c1.2 c3 (a7_low z.2.1) (a7_up z.2.1) (a7_order z.2.1) (a7_weights z.2.1)
        have m6 : mX6_value (a6_answer_bottom z.1) (a6_answer_top z.1) (a6_present_denominator z.1) (a6_present_numerator z.1) (z3 x) (z3 y) = some (4, 0, a6_answer_bottom z.1, a6_answer_top z.1) := by
          unfold mX6_value
          rw [tw12, nw_y c1 x0 x1 (by omega) (by omega), Option.bind_some, if_pos rfl, np_y c2 y0 y1, Option.bind_some, if_pos rfl, nv_n h0 h5 hr hry hbw hv c1.1 c1.2 c3]
          rfl
        have m7 : mX7_value (a7_low z.2.1) (a7_order z.2.1) (a7_s z.2.1) (a7_thrown z.2.1) (a7_up z.2.1) (a7_weights z.2.1) (z3 x) (z3 y) = some (0, a7_low z.2.1, o1, 2, a7_up z.2.1, w1) := by
          unfold mX7_value
          rw [iw_y c1 x0 x1, Option.bind_some, if_neg (by decide), ip_y c2 y0 y1, Option.bind_some, if_neg (by decide), if_neg (by decide), e1]
          rfl
        have E6 : ∃ σ1 o1, h_value z.1 (z3 x) (z3 y) z.2.2.1 = some (2, σ1, o1) ∧ (o1 0 = o1 0) ∧ ((2 : Int32) = 0 → o1 = vp_updL z.2.2.1 0 (0)) ∧ ∀ τ, JZ z.1 τ → JZ σ1 τ := by
          apply Exists.intro
          apply Exists.intro
          refine ⟨?_, rfl, ?_, ?_⟩
          · unfold h_value s6_value
            rw [m6]
            rfl
          · exact fun w => absurd w (by decide)
          · exact fun τ h => h
        have E7 : ∃ v1 τ1, s7_value z.2.1 (z3 x) (z3 y) = some (v1, τ1) ∧ a7_thrown τ1 = 2 ∧ ((2 : Int32) = 0 → (0) = (fun x => x) v1) ∧ ∀ σ, JZ σ z.2.1 → JZ σ τ1 := by
          apply Exists.intro
          apply Exists.intro
          refine ⟨?_, ?_, ?_, ?_⟩
          · unfold s7_value
            rw [m7]
            rfl
          · rfl
          · exact fun w => absurd w (by decide)
          · exact fun σ h => h
        obtain ⟨σ1, o1, e6, -, v6, j6⟩ := E6
        obtain ⟨w1, τ1, e7, t7, v7, j7⟩ := E7
        exact fin1 (fun x => x) e6 e7 t7 (fun w => by rw [v6 w]; exact v7 w) (j7 _ (j6 _ h))
    · have m6 : mX6_value (a6_answer_bottom z.1) (a6_answer_top z.1) (a6_present_denominator z.1) (a6_present_numerator z.1) (z3 x) (z3 y) = some (2, 0, a6_answer_bottom z.1, a6_answer_top z.1) := by
        unfold mX6_value
        rw [tw12, nw_y c1 x0 x1 (by omega) (by omega), Option.bind_some, if_pos rfl, np_n c2 y0 y1]
        rfl
      have m7 : mX7_value (a7_low z.2.1) (a7_order z.2.1) (a7_s z.2.1) (a7_thrown z.2.1) (a7_up z.2.1) (a7_weights z.2.1) (z3 x) (z3 y) = some (0, a7_low z.2.1, a7_order z.2.1, 1, a7_up z.2.1, a7_weights z.2.1) := by
        unfold mX7_value
        rw [iw_y c1 x0 x1, Option.bind_some, if_neg (by decide), ip_n c2 y0 y1]
        rfl
      have E6 : ∃ σ1 o1, h_value z.1 (z3 x) (z3 y) z.2.2.1 = some (1, σ1, o1) ∧ (o1 0 = o1 0) ∧ ((1 : Int32) = 0 → o1 = vp_updL z.2.2.1 0 (0)) ∧ ∀ τ, JZ z.1 τ → JZ σ1 τ := by
        apply Exists.intro
        apply Exists.intro
        refine ⟨?_, rfl, ?_, ?_⟩
        · unfold h_value s6_value
          rw [m6]
          rfl
        · exact fun w => absurd w (by decide)
        · exact fun τ h => h
      have E7 : ∃ v1 τ1, s7_value z.2.1 (z3 x) (z3 y) = some (v1, τ1) ∧ a7_thrown τ1 = 1 ∧ ((1 : Int32) = 0 → (0) = (fun x => x) v1) ∧ ∀ σ, JZ σ z.2.1 → JZ σ τ1 := by
        apply Exists.intro
        apply Exists.intro
        refine ⟨?_, ?_, ?_, ?_⟩
        · unfold s7_value
          rw [m7]
          rfl
        · rfl
        · exact fun w => absurd w (by decide)
        · exact fun σ h => h
      obtain ⟨σ1, o1, e6, -, v6, j6⟩ := E6
      obtain ⟨w1, τ1, e7, t7, v7, j7⟩ := E7
      exact fin1 (fun x => x) e6 e7 t7 (fun w => by rw [v6 w]; exact v7 w) (j7 _ (j6 _ h))
  · have m6 : mX6_value (a6_answer_bottom z.1) (a6_answer_top z.1) (a6_present_denominator z.1) (a6_present_numerator z.1) (z3 x) (z3 y) = some (2, 0, a6_answer_bottom z.1, a6_answer_top z.1) := by
      unfold mX6_value
      rw [tw12, nw_n c1 x0 x1 (by omega) (by omega)]
      rfl
    have m7 : mX7_value (a7_low z.2.1) (a7_order z.2.1) (a7_s z.2.1) (a7_thrown z.2.1) (a7_up z.2.1) (a7_weights z.2.1) (z3 x) (z3 y) = some (0, a7_low z.2.1, a7_order z.2.1, 1, a7_up z.2.1, a7_weights z.2.1) := by
      unfold mX7_value
      rw [iw_n c1 x0 x1]
      rfl
    have E6 : ∃ σ1 o1, h_value z.1 (z3 x) (z3 y) z.2.2.1 = some (1, σ1, o1) ∧ (o1 0 = o1 0) ∧ ((1 : Int32) = 0 → o1 = vp_updL z.2.2.1 0 (0)) ∧ ∀ τ, JZ z.1 τ → JZ σ1 τ := by
      apply Exists.intro
      apply Exists.intro
      refine ⟨?_, rfl, ?_, ?_⟩
      · unfold h_value s6_value
        rw [m6]
        rfl
      · exact fun w => absurd w (by decide)
      · exact fun τ h => h
    have E7 : ∃ v1 τ1, s7_value z.2.1 (z3 x) (z3 y) = some (v1, τ1) ∧ a7_thrown τ1 = 1 ∧ ((1 : Int32) = 0 → (0) = (fun x => x) v1) ∧ ∀ σ, JZ σ z.2.1 → JZ σ τ1 := by
      apply Exists.intro
      apply Exists.intro
      refine ⟨?_, ?_, ?_, ?_⟩
      · unfold s7_value
        rw [m7]
        rfl
      · rfl
      · exact fun w => absurd w (by decide)
      · exact fun σ h => h
    obtain ⟨σ1, o1, e6, -, v6, j6⟩ := E6
    obtain ⟨w1, τ1, e7, t7, v7, j7⟩ := E7
    exact fin1 (fun x => x) e6 e7 t7 (fun w => by rw [v6 w]; exact v7 w) (j7 _ (j6 _ h))
/-- whether a point is met -/
def metz (C : Int) (X Y wt : Int → Int) (k : Int) : Prop := kiz C X Y wt (X k) ≤ 1 ∧ vT C X Y wt (X k) = Y k ∧ vB C X Y wt (X k) = 1
theorem v_b {C x : Int} {X Y wt : Int → Int} (h0 : 0 ≤ C) (h5 : C ≤ 5) (hr : Rz C (-9) 9 X) (hry : Rz C (-20) 20 Y) (hb : Bw C wt) (x0 : -12 ≤ x) (x1 : x ≤ 12) (hk : kiz C X Y wt x ≤ 1) : (vT C X Y wt x).natAbs ≤ 124026212545200000 ∧ 0 < vB C X Y wt x ∧ vB C X Y wt x ≤ 124026212545200000 := by
  have b0 := nmv_b h0 h5 hr hry hb x0 x1 0
  have b1 := nmv_b h0 h5 hr hry hb x0 x1 1
  unfold vT vB
  rcases kiz_c C X Y wt x with ⟨k, e⟩ | ⟨k, e, e2⟩ | k | k
  · have := rd_b (a := nmv C X Y wt x 0) e
    rw [if_neg e, if_neg e]
    omega
  · have := rd_b (a := smv C X Y wt x 0) e2
    rw [if_pos e, if_pos e]
    omega
  · omega
  · omega
section MET
variable {a : AZ}
theorem meets3 {k : Int} {xs ys : Nat → Int32} {den num : Nat → Int64} (hO : OkZ a) (hx : En 0 (zC a) xs (zX a)) (hy : En 0 (zC a) ys (zY a)) (hv : Crv (zC a) (zX a) (zY a) (zw a) den num) (k0 : 0 ≤ k) (k1 : k < zC a) (b t : Int64) :
    (metz (zC a) (zX a) (zY a) (zw a) k → ∃ b1 t1, mX6_meets b t den xs ys num (z3 k) = some (1, b1, t1)) ∧ (¬ metz (zC a) (zX a) (zY a) (zw a) k → ∃ b1 t1, mX6_meets b t den xs ys num (z3 k) = some (0, b1, t1)) := by
  have hb := hO.bw
  obtain ⟨h0, h5, m0, m1, d0, d1, hr, hry, hrw, hi⟩ := hO
  have ex := hx.z k0 k1
  have ey := hy.z k0 k1
  have rx := hr k k0 k1
  have ry := hry k k0 k1
  have hU : mX6_meets b t den xs ys num (z3 k) = (mX0_putValue den num b t (z3 (zX a k))).bind fun r2 => if r2.1 = 0 then some (0, r2.2.1, r2.2.2) else (mX1_part r2.2.1 r2.2.2 1).bind fun r4 => if r4 = 1 then (mX1_part r2.2.1 r2.2.2 0).bind fun r6 => (mX3_yOf ys (z3 k)).bind fun r7 => if r6 = (Int32.toInt64 r7) then some (1, r2.2.1, r2.2.2) else some (0, r2.2.1, r2.2.2) else some (0, r2.2.1, r2.2.2) := by
    unfold mX6_meets
    rw [xOfz k0 (by omega), Option.bind_some, ex]
  rw [hU]
  by_cases c : kiz (zC a) (zX a) (zY a) (zw a) (zX a k) ≤ 1
  · have vb := v_b h0 h5 hr hry hb (x := zX a k) (by omega) (by omega) c
    rw [put3y h0 h5 hr hry hb hv (by omega) (by omega) c, Option.bind_some, if_neg n10]
    show (_ → ∃ b1 t1, (if z6 (vB (zC a) (zX a) (zY a) (zw a) (zX a k)) = 1 then (mX3_yOf ys (z3 k)).bind fun r7 => if z6 (vT (zC a) (zX a) (zY a) (zw a) (zX a k)) = (Int32.toInt64 r7) then some (1, _, _) else some (0, _, _) else some (0, _, _)) = _) ∧ (_ → ∃ b1 t1, (if z6 (vB (zC a) (zX a) (zY a) (zw a) (zX a k)) = 1 then (mX3_yOf ys (z3 k)).bind fun r7 => if z6 (vT (zC a) (zX a) (zY a) (zw a) (zX a k)) = (Int32.toInt64 r7) then some (1, _, _) else some (0, _, _) else some (0, _, _)) = _)
    rw [yOfz k0 (by omega), Option.bind_some, ey, z364 (by omega) (by omega)]
    by_cases c2 : vB (zC a) (zX a) (zY a) (zw a) (zX a k) = 1
    · rw [if_pos (by rw [c2]; rfl)]
      by_cases c3 : vT (zC a) (zX a) (zY a) (zw a) (zX a k) = zY a k
      · rw [if_pos (by rw [c3])]
        exact ⟨fun _ => ⟨_, _, rfl⟩, fun w => absurd ⟨c, c3, c2⟩ w⟩
      · rw [if_neg (fun w => c3 ((z6eq (by omega) (by omega) (by omega) (by omega)).1 w))]
        exact ⟨fun w => absurd w.2.1 c3, fun _ => ⟨_, _, rfl⟩⟩
    · rw [if_neg (fun w => c2 ((z6eq (by omega) (by omega) (by omega) (by omega)).1 (w.trans l6_1)))]
      exact ⟨fun w => absurd w.2.2 c2, fun _ => ⟨_, _, rfl⟩⟩
  · rw [put3n h0 h5 hr hry hb hv (by omega) (by omega) c, Option.bind_some, if_pos rfl]
    exact ⟨fun w => absurd w.1 c, fun _ => ⟨_, _, rfl⟩⟩
theorem meets7 {k : Int} {s : Nat → Int32} (hO : OkZ a) (h7 : N7 a s) (k0 : 0 ≤ k) (k1 : k < zC a) (lo up : Int64) (o : Nat → Int32) (w : Nat → Int64) :
    (metz (zC a) (zX a) (zY a) (zw a) k → ∃ l1 o1 u1 w1, mX7_isMetNow lo o s up w (z3 k) = some (1, l1, o1, u1, w1)) ∧ (¬ metz (zC a) (zX a) (zY a) (zw a) k → ∃ l1 o1 u1 w1, mX7_isMetNow lo o s up w (z3 k) = some (0, l1, o1, u1, w1)) := by
  have hO' := hO
  have h7' := h7
  have hb := hO.bw
  obtain ⟨h0, h5, m0, m1, d0, d1, hr, hry, hrw, hi⟩ := hO
  obtain ⟨s0, s1, s2, tx, ty, tw⟩ := h7
  have ex := tx k k0 k1
  have ey := ty k k0 k1
  have rx := hr k k0 k1
  have ry := hry k k0 k1
  have g1 : ¬ (3 + z3 k < 0 ∨ 18 ≤ Int32.toNatClampNeg (3 + z3 k)) := by rw [l3_3, z3a]; exact gix (by omega) (by omega) (by decide)
  have g2 : ¬ (8 + z3 k < 0 ∨ 18 ≤ Int32.toNatClampNeg (8 + z3 k)) := by rw [l3_8, z3a]; exact gix (by omega) (by omega) (by decide)
  have f1 : s (Int32.toNatClampNeg (3 + z3 k)) = z3 (zX a k) := by rw [l3_3, z3a, z3nat (by omega) (by omega), ex]
  have f2 : s (Int32.toNatClampNeg (8 + z3 k)) = z3 (zY a k) := by rw [l3_8, z3a, z3nat (by omega) (by omega), ey]
  unfold mX7_isMetNow
  rw [if_neg g1, f1]
  by_cases c : kiz (zC a) (zX a) (zY a) (zw a) (zX a k) ≤ 1
  · have vb := v_b h0 h5 hr hry hb (x := zX a k) (by omega) (by omega) c
    obtain ⟨o1, w1, e1⟩ := hasV_y hO' h7' (x := zX a k) (by omega) (by omega) c lo up o w
    rw [e1, Option.bind_some, if_neg n10, if_neg g2, f2, z364 (by omega) (by omega)]
    by_cases c3 : vT (zC a) (zX a) (zY a) (zw a) (zX a k) = zY a k
    · rw [if_pos (by show z6 _ = z6 _; rw [c3])]
      by_cases c2 : vB (zC a) (zX a) (zY a) (zw a) (zX a k) = 1
      · rw [if_pos (by show z6 _ = _; rw [c2]; rfl)]
        exact ⟨fun _ => ⟨_, _, _, _, rfl⟩, fun w => absurd ⟨c, c3, c2⟩ w⟩
      · rw [if_neg (fun w => c2 ((z6eq (by omega) (by omega) (by omega) (by omega)).1 (Eq.trans w l6_1)))]
        exact ⟨fun w => absurd w.2.2 c2, fun _ => ⟨_, _, _, _, rfl⟩⟩
    · rw [if_neg (fun w => c3 ((z6eq (by omega) (by omega) (by omega) (by omega)).1 w))]
      exact ⟨fun w => absurd w.2.1 c3, fun _ => ⟨_, _, _, _, rfl⟩⟩
  · obtain ⟨o1, w1, e1⟩ := hasV_n hO' h7' (x := zX a k) (by omega) (by omega) c lo up o w
    rw [e1, Option.bind_some, if_pos rfl]
    exact ⟨fun w => absurd w.1 c, fun _ => ⟨_, _, _, _, rfl⟩⟩
end MET
