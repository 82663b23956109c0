/-! Edits: mirror, shift, undo. -/
theorem s2c {C : Int} {s : Nat → Int32} (hs2 : s 2 = z3 C) : ¬ ((2 : Int32) < 0 ∨ 18 ≤ Int32.toNatClampNeg 2) ∧ s (Int32.toNatClampNeg 2) = z3 C := ⟨by decide, hs2⟩
section MAP
variable {C : Int} {X : Int → Int} {xs s : Nat → Int32}
theorem mirr3 (h0 : 0 ≤ C) (h5 : C ≤ 5) (hx : En 0 C xs X) : ∃ xs1, lX6_mirror_16 (z3 C) FU (z3 0) xs = some xs1 ∧ En 0 C xs1 (fun k => -(X k)) := by
  obtain ⟨xs1, e1, p1, p2, p3⟩ := runr (fun n j (q : Nat → Int32) => lX6_mirror_16 (z3 C) n (z3 j) q) (fun j q => 0 ≤ j ∧ (∀ k, 0 ≤ k → k < j → q k.toNat = z3 (-(X k))) ∧ (∀ k, j ≤ k → k < C → q k.toNat = z3 (X k))) C (fun q => q)
    (fun n j q hj hp => by
      obtain ⟨p1, p2, p3⟩ := hp
      have ej := p3 j (Int.le_refl _) hj
      refine ⟨upd q j.toNat (z3 ((-(X j)))), ?_, by omega, fun k k0 k1 => ?_, fun k k0 k1 => ?_⟩
      · rw [lX6_mirror_16, mX3_size, Option.bind_some, if_neg (fun w => by have := (z3le (by omega) (by omega) (by omega) (by omega)).1 w; omega), xOfz p1 (by omega), Option.bind_some, ej, z3n, putX3 _ p1 (by omega), Option.bind_some, l3_1, z3a]
      · by_cases w : k = j
        · rw [w, upd_s]
        · rw [upd_n (by omega)]
          exact p2 k k0 (by omega)
      · rw [upd_n (by omega)]
        exact p3 k (by omega) k1)
    (fun n q hp => by
      rw [lX6_mirror_16, mX3_size, Option.bind_some, if_pos ((z3le (by omega) (by omega) (by omega) (by omega)).2 (Int.le_refl _))])
    C.toNat FU 0 xs (by omega) (fuel (by omega)) ⟨by omega, fun k _ _ => by omega, fun k k0 k1 => hx.z k0 k1⟩
  exact ⟨xs1, e1, fun k k0 k1 => by rw [show (0 : Int) + k = k by omega]; exact p2 k k0 k1⟩
theorem mirr7 (h0 : 0 ≤ C) (h5 : C ≤ 5) (hs2 : s 2 = z3 C) (hx : En 3 C s X) : ∃ s1, lX7_mirror_11 FU (z3 0) s = some s1 ∧ En 3 C s1 (fun k => -(X k)) ∧ ∀ i : Nat, (i < 3 ∨ 8 ≤ i) → s1 i = s i := by
  obtain ⟨s1, e1, p1, p2, p3, p4⟩ := runr (fun n j (q : Nat → Int32) => lX7_mirror_11 n (z3 j) q) (fun j q => 0 ≤ j ∧ (∀ k, 0 ≤ k → k < j → q (3 + k).toNat = z3 (-(X k))) ∧ (∀ k, j ≤ k → k < C → q (3 + k).toNat = z3 (X k)) ∧ ∀ i : Nat, (i < 3 ∨ 8 ≤ i) → q i = s i) C (fun q => q)
    (fun n j q hj hp => by
      obtain ⟨p1, p2, p3, p4⟩ := hp
      have ej := p3 j (Int.le_refl _) hj
      obtain ⟨g2, f2⟩ := s2c ((p4 2 (by omega)).trans hs2)
      have g3 := gix (x := 3 + j) (n := 18) (by omega) (by omega) (by decide)
      refine ⟨upd q (3 + j).toNat (z3 ((-(X j)))), ?_, by omega, fun k k0 k1 => ?_, fun k k0 k1 => ?_, fun i hi => ?_⟩
      · rw [lX7_mirror_11, if_neg g2, f2, if_neg (fun w => by have := (z3le (by omega) (by omega) (by omega) (by omega)).1 w; omega), show (3 : Int32) = z3 3 from rfl, z3a, if_neg g3, if_neg g3, z3nat (by omega) (by omega), ej, z3n, l3_1, z3a]
      · by_cases w : k = j
        · rw [w, upd_s]
        · rw [upd_n (by omega)]
          exact p2 k k0 (by omega)
      · rw [upd_n (by omega)]
        exact p3 k (by omega) k1
      · rw [upd_n (by omega)]
        exact p4 i hi)
    (fun n q hp => by
      obtain ⟨p1, p2, p3, p4⟩ := hp
      obtain ⟨g2, f2⟩ := s2c ((p4 2 (by omega)).trans hs2)
      rw [lX7_mirror_11, if_neg g2, f2, if_pos ((z3le (by omega) (by omega) (by omega) (by omega)).2 (Int.le_refl _))])
    C.toNat FU 0 s (by omega) (fuel (by omega)) ⟨by omega, fun k _ _ => by omega, fun k k0 k1 => hx k k0 k1, fun i _ => rfl⟩
  exact ⟨s1, e1, fun k k0 k1 => p2 k k0 k1, p4⟩
theorem shif3 (h0 : 0 ≤ C) (h5 : C ≤ 5) (hx : En 0 C xs X) (b : Int) : ∃ xs1, lX6_shift_46 (z3 b) (z3 C) FU (z3 0) xs = some xs1 ∧ En 0 C xs1 (fun k => X k + b) := by
  obtain ⟨xs1, e1, p1, p2, p3⟩ := runr (fun n j (q : Nat → Int32) => lX6_shift_46 (z3 b) (z3 C) n (z3 j) q) (fun j q => 0 ≤ j ∧ (∀ k, 0 ≤ k → k < j → q k.toNat = z3 (X k + b)) ∧ (∀ k, j ≤ k → k < C → q k.toNat = z3 (X k))) C (fun q => q)
    (fun n j q hj hp => by
      obtain ⟨p1, p2, p3⟩ := hp
      have ej := p3 j (Int.le_refl _) hj
      refine ⟨upd q j.toNat (z3 ((X j + b))), ?_, by omega, fun k k0 k1 => ?_, fun k k0 k1 => ?_⟩
      · rw [lX6_shift_46, mX3_size, Option.bind_some, if_neg (fun w => by have := (z3le (by omega) (by omega) (by omega) (by omega)).1 w; omega), xOfz p1 (by omega), Option.bind_some, ej, z3a, putX3 _ p1 (by omega), Option.bind_some, l3_1, z3a]
      · by_cases w : k = j
        · rw [w, upd_s]
        · rw [upd_n (by omega)]
          exact p2 k k0 (by omega)
      · rw [upd_n (by omega)]
        exact p3 k (by omega) k1)
    (fun n q hp => by
      rw [lX6_shift_46, mX3_size, Option.bind_some, if_pos ((z3le (by omega) (by omega) (by omega) (by omega)).2 (Int.le_refl _))])
    C.toNat FU 0 xs (by omega) (fuel (by omega)) ⟨by omega, fun k _ _ => by omega, fun k k0 k1 => hx.z k0 k1⟩
  exact ⟨xs1, e1, fun k k0 k1 => by rw [show (0 : Int) + k = k by omega]; exact p2 k k0 k1⟩
theorem shif7 (h0 : 0 ≤ C) (h5 : C ≤ 5) (hs2 : s 2 = z3 C) (hx : En 3 C s X) (b : Int) : ∃ s1, lX7_shift_45 (z3 b) FU (z3 0) s = some s1 ∧ En 3 C s1 (fun k => X k + b) ∧ ∀ i : Nat, (i < 3 ∨ 8 ≤ i) → s1 i = s i := by
  obtain ⟨s1, e1, p1, p2, p3, p4⟩ := runr (fun n j (q : Nat → Int32) => lX7_shift_45 (z3 b) n (z3 j) q) (fun j q => 0 ≤ j ∧ (∀ k, 0 ≤ k → k < j → q (3 + k).toNat = z3 (X k + b)) ∧ (∀ k, j ≤ k → k < C → q (3 + k).toNat = z3 (X k)) ∧ ∀ i : Nat, (i < 3 ∨ 8 ≤ i) → q i = s i) C (fun q => q)
    (fun n j q hj hp => by
      obtain ⟨p1, p2, p3, p4⟩ := hp
      have ej := p3 j (Int.le_refl _) hj
      obtain ⟨g2, f2⟩ := s2c ((p4 2 (by omega)).trans hs2)
      have g3 := gix (x := 3 + j) (n := 18) (by omega) (by omega) (by decide)
      refine ⟨upd q (3 + j).toNat (z3 ((X j + b))), ?_, by omega, fun k k0 k1 => ?_, fun k k0 k1 => ?_, fun i hi => ?_⟩
      · rw [lX7_shift_45, if_neg g2, f2, if_neg (fun w => by have := (z3le (by omega) (by omega) (by omega) (by omega)).1 w; omega), show (3 : Int32) = z3 3 from rfl, z3a, if_neg g3, if_neg g3, z3nat (by omega) (by omega), ej, z3a, l3_1, z3a]
      · by_cases w : k = j
        · rw [w, upd_s]
        · rw [upd_n (by omega)]
          exact p2 k k0 (by omega)
      · rw [upd_n (by omega)]
        exact p3 k (by omega) k1
      · rw [upd_n (by omega)]
        exact p4 i hi)
    (fun n q hp => by
      obtain ⟨p1, p2, p3, p4⟩ := hp
      obtain ⟨g2, f2⟩ := s2c ((p4 2 (by omega)).trans hs2)
      rw [lX7_shift_45, if_neg g2, f2, if_pos ((z3le (by omega) (by omega) (by omega) (by omega)).2 (Int.le_refl _))])
    C.toNat FU 0 s (by omega) (fuel (by omega)) ⟨by omega, fun k _ _ => by omega, fun k k0 k1 => hx k k0 k1, fun i _ => rfl⟩
  exact ⟨s1, e1, fun k k0 k1 => p2 k k0 k1, p4⟩
theorem can3 {b : Int} (h0 : 0 ≤ C) (h5 : C ≤ 5) (hx : En 0 C xs X) (hr : Rz C (-9) 9 X) (b0 : -18 ≤ b) (b1 : b ≤ 18) : (Rz C (-9) 9 (fun k => X k + b) → mX3_allowsShift (z3 C) xs (z3 b) = some 1) ∧ (¬ Rz C (-9) 9 (fun k => X k + b) → mX3_allowsShift (z3 C) xs (z3 b) = some 0) := by
  obtain ⟨q, e, hq⟩ := rune (fun n j (_ : Unit) => lX3_allowsShift_2 (z3 b) (z3 C) xs n (z3 j)) (fun j _ => 0 ≤ j ∧ Rz j (-9) 9 (fun k => X k + b)) (fun q : Nat => (q = 0 ∧ ¬ Rz C (-9) 9 (fun k => X k + b)) ∨ (q = 1 ∧ Rz C (-9) 9 (fun k => X k + b))) C
    (fun n j _ hj hp => by
      obtain ⟨p1, p2⟩ := hp
      have e1 := hx.z p1 hj
      have r1 := hr j p1 hj
      rw [lX3_allowsShift_2, if_neg (fun w => by have := (z3le (by omega) (by omega) (by omega) (by omega)).1 w; omega), xOfz p1 (by omega), Option.bind_some, Option.bind_some, e1, z3a, show (-9 : Int32) = z3 (-9) from rfl, show (9 : Int32) = z3 9 from rfl, l3_1, z3a]
      by_cases c1 : X j + b < -9
      · rw [if_pos ((z3lt (by omega) (by omega) (by omega) (by omega)).2 c1)]
        exact Or.inl ⟨_, rfl, Or.inl ⟨rfl, fun w => by have := w j p1 hj; dsimp only at this; omega⟩⟩
      · rw [if_neg (fun w => c1 ((z3lt (by omega) (by omega) (by omega) (by omega)).1 w))]
        by_cases c2 : X j + b ≤ 9
        · rw [if_pos ((z3le (by omega) (by omega) (by omega) (by omega)).2 c2)]
          refine Or.inr ⟨(), rfl, by omega, fun k k0 k1 => ?_⟩
          by_cases w : k = j
          · rw [w]
            dsimp only
            omega
          · exact p2 k k0 (by omega)
        · rw [if_neg (fun w => c2 ((z3le (by omega) (by omega) (by omega) (by omega)).1 w))]
          exact Or.inl ⟨_, rfl, Or.inl ⟨rfl, fun w => by have := w j p1 hj; dsimp only at this; omega⟩⟩)
    (fun n _ hp => by
      rw [lX3_allowsShift_2, if_pos ((z3le (by omega) (by omega) (by omega) (by omega)).2 (Int.le_refl _))]
      exact ⟨_, rfl, Or.inr ⟨rfl, hp.2⟩⟩)
    C.toNat FU 0 () (by omega) (fuel (by omega)) ⟨by omega, fun k _ _ => by omega⟩
  unfold mX3_allowsShift
  rw [l3_0, e, Option.bind_some]
  rcases hq with ⟨rfl, hq⟩ | ⟨rfl, hq⟩
  · exact ⟨fun w => absurd w hq, fun _ => rfl⟩
  · exact ⟨fun _ => rfl, fun w => absurd hq w⟩
theorem can7 {b : Int} (h0 : 0 ≤ C) (h5 : C ≤ 5) (hs2 : s 2 = z3 C) (hx : En 3 C s X) (hr : Rz C (-9) 9 X) (b0 : -18 ≤ b) (b1 : b ≤ 18) : (Rz C (-9) 9 (fun k => X k + b) → mX7_canShift s (z3 b) = some 1) ∧ (¬ Rz C (-9) 9 (fun k => X k + b) → mX7_canShift s (z3 b) = some 0) := by
  obtain ⟨g2, f2⟩ := s2c hs2
  obtain ⟨q, e, -, hq⟩ := runr (fun n j (q : Int32) => lX7_canShift_4 (z3 b) s n q (z3 j)) (fun j q => 0 ≤ j ∧ ((q = 1 ∧ Rz j (-9) 9 (fun k => X k + b)) ∨ (q = 0 ∧ ¬ Rz C (-9) 9 (fun k => X k + b)))) C (fun q => q)
    (fun n j q hj hp => by
      obtain ⟨p1, p2⟩ := hp
      have e1 := hx j p1 hj
      have r1 := hr j p1 hj
      try dsimp only
      rw [lX7_canShift_4, if_neg g2, f2, if_neg (fun w => by have := (z3le (by omega) (by omega) (by omega) (by omega)).1 w; omega), show (3 : Int32) = z3 3 from rfl, z3a, if_neg (gix (by omega) (by omega) (by decide)), z3nat (by omega) (by omega), e1, z3a]
      rcases p2 with ⟨rfl, p2⟩ | ⟨rfl, p2⟩
      · rw [if_neg n10]
        by_cases c1 : -9 ≤ X j + b ∧ X j + b ≤ 9
        · rw [iX_y c1 (by omega) (by omega), Option.bind_some, if_neg n10, l3_1, z3a]
          refine ⟨z3 1, rfl, by omega, Or.inl ⟨rfl, fun k k0 k1 => ?_⟩⟩
          by_cases w : k = j
          · rw [w]
            exact c1
          · exact p2 k k0 (by omega)
        · rw [iX_n c1 (by omega) (by omega), Option.bind_some, if_pos rfl, l3_1, z3a]
          exact ⟨0, rfl, by omega, Or.inr ⟨rfl, fun w => c1 (w j p1 hj)⟩⟩
      · rw [if_pos rfl, l3_1, z3a]
        exact ⟨0, rfl, by omega, Or.inr ⟨rfl, p2⟩⟩)
    (fun n q hp => by
      rw [lX7_canShift_4, if_neg g2, f2, if_pos ((z3le (by omega) (by omega) (by omega) (by omega)).2 (Int.le_refl _))])
    C.toNat FU 0 1 (by omega) (fuel (by omega)) ⟨by omega, Or.inl ⟨rfl, fun k _ _ => by omega⟩⟩
  unfold mX7_canShift
  rw [l3_0]
  try rw [l3_0] at e
  rw [e, Option.bind_some]
  rcases hq with ⟨rfl, hq⟩ | ⟨rfl, hq⟩
  · exact ⟨fun _ => rfl, fun w => absurd hq w⟩
  · exact ⟨fun w => absurd w hq, fun _ => rfl⟩
end MAP
theorem ok_38 : SOK q_38 := by
  intro u z h
  obtain ⟨a, hO, ⟨⟨hc, hd, hm, hw, hx, hy⟩, ⟨hv, ho, hwt⟩⟩, ⟨s0, s1, s2, tx, ty, tw⟩⟩ := h.1
  have O := hO
  obtain ⟨h0, h5, m0, m1, d0, d1, hr, hry, hrw, hi⟩ := O
  have hbw := hO.bw
  unfold q_38
  obtain ⟨hc1, kc1, kd1, km1, kw1, kx1, ky1, ed1, hi1, R3, R7, hJ1⟩ := rememb h.2.1 hO ⟨hc, hd, hm, hw, hx, hy⟩ ⟨s0, s1, s2, tx, ty, tw⟩
  obtain ⟨xs1, M3, hx1⟩ := mirr3 h0 h5 hx
  obtain ⟨s1, M7, tx1, so⟩ := mirr7 h0 h5 s2 tx
  have hO9 : OkZ (zC a, zM a, zD a, (fun k => -(zX a k)), zY a, zW a) := ⟨h0, h5, m0, m1, d0, d1, fun k k0 k1 => by have := hr k k0 k1; show -9 ≤ -(zX a k) ∧ -(zX a k) ≤ 9; omega, hry, hrw, fun j k j0 j1 k0 k1 e => hi j k j0 j1 k0 k1 (by have e : -(zX a j) = -(zX a k) := e; omega)⟩
  obtain ⟨a9, ea9⟩ : ∃ a9 : AZ, a9 = (zC a, zM a, zD a, (fun k => -(zX a k)), zY a, zW a) := ⟨_, rfl⟩
  rw [← ea9] at hO9
  have hN3 : N3 a9 (a6_present_nodes_count z.1) (a6_present_nodes_degree z.1) (a6_present_nodes_mode z.1) (a6_present_nodes_ws z.1) xs1 (a6_present_nodes_ys z.1) := by
    rw [ea9]
    exact ⟨hc, hd, hm, hw, hx1, hy⟩
  have f2 : s1 2 = z3 (zC a) := (so 2 (by omega)).trans s2
  have hN7 : N7 a9 s1 := by
    rw [ea9]
    exact ⟨(so 0 (by omega)).trans s0, (so 1 (by omega)).trans (by assumption), f2, tx1, fun k k0 k1 => (so _ (by omega)).trans (ty k k0 k1), fun k k0 k1 => (so _ (by omega)).trans (tw k k0 k1)⟩
  obtain ⟨den1, num1, or1, pr1, so1, wt1, RK, hCv⟩ := reckon3 hO9 hN3 (a6_present_denominator z.1) (a6_present_numerator z.1) (a6_present_order z.1) (a6_present_product z.1) (a6_present_sorted z.1) (a6_present_weights z.1)
  obtain ⟨gg2, ff2⟩ := s2c f2
  rw [← hc] at M3
  have m6 : mX6_mirror (a6_history_count z.1) (a6_history_kept_E_count z.1) (a6_history_kept_E_degree z.1) (a6_history_kept_E_mode z.1) (a6_history_kept_E_ws z.1) (a6_history_kept_E_xs z.1) (a6_history_kept_E_ys z.1) (a6_present_denominator z.1) (a6_present_nodes_count z.1) (a6_present_nodes_degree z.1) (a6_present_nodes_mode z.1) (a6_present_nodes_ws z.1) (a6_present_nodes_xs z.1) (a6_present_nodes_ys z.1) (a6_present_numerator z.1) (a6_present_order z.1) (a6_present_product z.1) (a6_present_sorted z.1) (a6_present_weights z.1)  = some (z3 (zC a), hc1, kc1, kd1, km1, kw1, kx1, ky1, den1, xs1, num1, or1, pr1, so1, wt1) := by
    unfold mX6_mirror mX3_size
    rw [R3, Option.bind_some, l3_0, M3, Option.bind_some, RK, hc]
    rfl
  have m7 : mX7_mirror (a7_edits z.2.1) (a7_history z.2.1) (a7_s z.2.1) (a7_thrown z.2.1)  = some (z3 (zC a), ed1, hi1, s1, 0) := by
    unfold mX7_mirror
    rw [R7, Option.bind_some, show (lX7_mirror_11 FU 0 (a7_s z.2.1)) = some s1 from M7, Option.bind_some, if_neg gg2, ff2]
  have E6 : ∃ σ1, s6_mirror z.1  = some (z3 (zC a), σ1) ∧ ∀ τ1, JH hc1 kc1 km1 kd1 kw1 kx1 ky1 (a7_edits τ1) (a7_history τ1) → N7 a9 (a7_s τ1) → JB (a6_text_filled z.1) (a7_buffered τ1) (a6_text_bytes z.1) (a7_buffer τ1) → (a6_text_faultKind z.1 = a7_errorKind τ1 ∧ a6_text_faultPosition z.1 = a7_errorPosition τ1) → JO (a6_output_count z.1) (a7_outputLength τ1) (a6_output_signs z.1) (a7_output τ1) → JZ σ1 τ1 := by
    apply Exists.intro
    refine ⟨?_, ?_⟩
    · unfold s6_mirror
      rw [m6]
      rfl
    · exact fun τ1 x1 x2 x3 x4 x5 => ⟨⟨a9, hO9, ⟨hN3, hCv⟩, x2⟩, x1, x3, x4, x5⟩
  have E7 : ∃ τ1, s7_mirror z.2.1  = some (z3 (zC a), τ1) ∧ a7_edits τ1 = ed1 ∧ a7_history τ1 = hi1 ∧ a7_s τ1 = s1 ∧ a7_buffered τ1 = a7_buffered z.2.1 ∧ a7_buffer τ1 = a7_buffer z.2.1 ∧ a7_errorKind τ1 = a7_errorKind z.2.1 ∧ a7_errorPosition τ1 = a7_errorPosition z.2.1 ∧ a7_outputLength τ1 = a7_outputLength z.2.1 ∧ a7_output τ1 = a7_output z.2.1 := by
    apply Exists.intro
    refine ⟨?_, ?_⟩
    · unfold s7_mirror
      rw [m7]
      rfl
    · exact ⟨rfl, rfl, rfl, rfl, rfl, rfl, rfl, rfl, rfl⟩
  obtain ⟨σ1, f6, j6⟩ := E6
  obtain ⟨τ1, f7, i1, i2, i3, i4, i5, i6, i7, i8, i9⟩ := E7
  refine fin0 f6 f7 (j6 τ1 ?_ ?_ ?_ ?_ ?_)
  · rw [i1, i2]
    exact hJ1
  · rw [i3]
    exact hN7
  · rw [i4, i5]
    exact h.2.2.1
  · rw [i6, i7]
    exact h.2.2.2.1
  · rw [i8, i9]
    exact h.2.2.2.2
theorem ok_37 : SOK q_37 := by
  intro u z h
  obtain ⟨a, hO, ⟨⟨hc, hd, hm, hw, hx, hy⟩, ⟨hv, ho, hwt⟩⟩, ⟨s0, s1, s2, tx, ty, tw⟩⟩ := h.1
  have O := hO
  obtain ⟨h0, h5, m0, m1, d0, d1, hr, hry, hrw, hi⟩ := O
  have hbw := hO.bw
  obtain ⟨x, x0, x1, hu⟩ := ex3 (u 1)
  unfold q_37
  rw [hu]
  have nn : (18 : Int32) = z3 18 := rfl
  by_cases c1 : -18 ≤ x ∧ x ≤ 18
  · have C3 := can3 h0 h5 hx hr c1.1 c1.2
    have C7 := can7 h0 h5 s2 tx hr c1.1 c1.2
    rw [← hc] at C3
    by_cases c2 : Rz (zC a) (-9) 9 (fun k => zX a k + x)
    · obtain ⟨hc1, kc1, kd1, km1, kw1, kx1, ky1, ed1, hi1, R3, R7, hJ1⟩ := rememb h.2.1 hO ⟨hc, hd, hm, hw, hx, hy⟩ ⟨s0, s1, s2, tx, ty, tw⟩
      obtain ⟨xs1, M3, hx1⟩ := shif3 h0 h5 hx x
      obtain ⟨s1, M7, tx1, so⟩ := shif7 h0 h5 s2 tx x
      have hO9 : OkZ (zC a, zM a, zD a, (fun k => zX a k + x), zY a, zW a) := ⟨h0, h5, m0, m1, d0, d1, c2, hry, hrw, fun j k j0 j1 k0 k1 e => hi j k j0 j1 k0 k1 (by have e : zX a j + x = zX a k + x := e; omega)⟩
      obtain ⟨a9, ea9⟩ : ∃ a9 : AZ, a9 = (zC a, zM a, zD a, (fun k => zX a k + x), zY a, zW a) := ⟨_, rfl⟩
      rw [← ea9] at hO9
      have hN3 : N3 a9 (a6_present_nodes_count z.1) (a6_present_nodes_degree z.1) (a6_present_nodes_mode z.1) (a6_present_nodes_ws z.1) xs1 (a6_present_nodes_ys z.1) := by
        rw [ea9]
        exact ⟨hc, hd, hm, hw, hx1, hy⟩
      have f2 : s1 2 = z3 (zC a) := (so 2 (by omega)).trans s2
      have hN7 : N7 a9 s1 := by
        rw [ea9]
        exact ⟨(so 0 (by omega)).trans s0, (so 1 (by omega)).trans (by assumption), f2, tx1, fun k k0 k1 => (so _ (by omega)).trans (ty k k0 k1), fun k k0 k1 => (so _ (by omega)).trans (tw k k0 k1)⟩
      obtain ⟨den1, num1, or1, pr1, so1, wt1, RK, hCv⟩ := reckon3 hO9 hN3 (a6_present_denominator z.1) (a6_present_numerator z.1) (a6_present_order z.1) (a6_present_product z.1) (a6_present_sorted z.1) (a6_present_weights z.1)
      obtain ⟨gg2, ff2⟩ := s2c f2
      rw [← hc] at M3
      have m6 : mX6_shift (a6_history_count z.1) (a6_history_kept_E_count z.1) (a6_history_kept_E_degree z.1) (a6_history_kept_E_mode z.1) (a6_history_kept_E_ws z.1) (a6_history_kept_E_xs z.1) (a6_history_kept_E_ys z.1) (a6_present_denominator z.1) (a6_present_nodes_count z.1) (a6_present_nodes_degree z.1) (a6_present_nodes_mode z.1) (a6_present_nodes_ws z.1) (a6_present_nodes_xs z.1) (a6_present_nodes_ys z.1) (a6_present_numerator z.1) (a6_present_order z.1) (a6_present_product z.1) (a6_present_sorted z.1) (a6_present_weights z.1) (z3 x) = some (0, z3 (zC a), hc1, kc1, kd1, km1, kw1, kx1, ky1, den1, xs1, num1, or1, pr1, so1, wt1) := by
        unfold mX6_shift mX3_size
        rw [nn, nw_y c1 x0 x1 (by omega) (by omega), Option.bind_some, if_pos rfl, C3.1 c2, Option.bind_some, if_neg n10, R3, Option.bind_some, l3_0, M3, Option.bind_some, RK, hc]
        rfl
      have m7 : mX7_shift (a7_edits z.2.1) (a7_history z.2.1) (a7_s z.2.1) (a7_thrown z.2.1) (z3 x) = some (z3 (zC a), ed1, hi1, s1, 0) := by
        unfold mX7_shift
        rw [z364 x0 x1, show (-18 : Int64) = z6 (-18) from rfl, show (18 : Int64) = z6 18 from rfl, ii_y c1 x0 x1 (by omega) (by omega) (by omega) (by omega), Option.bind_some, if_neg n10, C7.1 c2, Option.bind_some, if_neg n10, g2_11, Option.bind_some, if_neg n10, R7, Option.bind_some, show (lX7_shift_45 (z3 x) FU 0 (a7_s z.2.1)) = some s1 from M7, Option.bind_some, if_neg gg2, ff2]
      have E6 : ∃ σ1 o1, h_shift z.1 (z3 x) z.2.2.1 = some (0, σ1, o1) ∧ o1 = vp_updL z.2.2.1 0 (Int32.toInt64 (z3 (zC a))) ∧ ∀ τ1, JH hc1 kc1 km1 kd1 kw1 kx1 ky1 (a7_edits τ1) (a7_history τ1) → N7 a9 (a7_s τ1) → JB (a6_text_filled z.1) (a7_buffered τ1) (a6_text_bytes z.1) (a7_buffer τ1) → (a6_text_faultKind z.1 = a7_errorKind τ1 ∧ a6_text_faultPosition z.1 = a7_errorPosition τ1) → JO (a6_output_count z.1) (a7_outputLength τ1) (a6_output_signs z.1) (a7_output τ1) → JZ σ1 τ1 := by
        apply Exists.intro
        apply Exists.intro
        refine ⟨?_, ?_, ?_⟩
        · unfold h_shift s6_shift
          rw [m6]
          rfl
        · rfl
        · exact fun τ1 x1 x2 x3 x4 x5 => ⟨⟨a9, hO9, ⟨hN3, hCv⟩, x2⟩, x1, x3, x4, x5⟩
      have E7 : ∃ v1 τ1, s7_shift z.2.1 (z3 x) = some (v1, τ1) ∧ a7_thrown τ1 = 0 ∧ (Int32.toInt64 (z3 (zC a))) = (Int32.toInt64) v1 ∧ a7_edits τ1 = ed1 ∧ a7_history τ1 = hi1 ∧ a7_s τ1 = s1 ∧ a7_buffered τ1 = a7_buffered z.2.1 ∧ a7_buffer τ1 = a7_buffer z.2.1 ∧ a7_errorKind τ1 = a7_errorKind z.2.1 ∧ a7_errorPosition τ1 = a7_errorPosition z.2.1 ∧ a7_outputLength τ1 = a7_outputLength z.2.1 ∧ a7_output τ1 = a7_output z.2.1 := by
        apply Exists.intro
        apply Exists.intro
        refine ⟨?_, ?_, ?_, ?_⟩
        · unfold s7_shift
          rw [m7]
          rfl
        · rfl
        · rfl
        · exact ⟨rfl, rfl, rfl, rfl, rfl, rfl, rfl, rfl, rfl⟩
      obtain ⟨σ1, o1, f6, v6, j6⟩ := E6
      obtain ⟨w1, τ1, f7, t7, v7, i1, i2, i3, i4, i5, i6, i7, i8, i9⟩ := E7
      refine fin1 (Int32.toInt64) f6 f7 t7 (fun _ => by rw [v6, updL_s]; exact v7) (j6 τ1 ?_ ?_ ?_ ?_ ?_)
      · rw [i1, i2]
        exact hJ1
      · rw [i3]
        exact hN7
      · rw [i4, i5]
        exact h.2.2.1
      · rw [i6, i7]
        exact h.2.2.2.1
      · rw [i8, i9]
        exact h.2.2.2.2
    · have m6 : mX6_shift (a6_history_count z.1) (a6_history_kept_E_count z.1) (a6_history_kept_E_degree z.1) (a6_history_kept_E_mode z.1) (a6_history_kept_E_ws z.1) (a6_history_kept_E_xs z.1) (a6_history_kept_E_ys z.1) (a6_present_denominator z.1) (a6_present_nodes_count z.1) (a6_present_nodes_degree z.1) (a6_present_nodes_mode z.1) (a6_present_nodes_ws z.1) (a6_present_nodes_xs z.1) (a6_present_nodes_ys z.1) (a6_present_numerator z.1) (a6_present_order z.1) (a6_present_product z.1) (a6_present_sorted z.1) (a6_present_weights z.1) (z3 x) = some (3, 0, a6_history_count z.1, a6_history_kept_E_count z.1, a6_history_kept_E_degree z.1, a6_history_kept_E_mode z.1, a6_history_kept_E_ws z.1, a6_history_kept_E_xs z.1, a6_history_kept_E_ys z.1, a6_present_denominator z.1, a6_present_nodes_xs z.1, a6_present_numerator z.1, a6_present_order z.1, a6_present_product z.1, a6_present_sorted z.1, a6_present_weights z.1) := by
        unfold mX6_shift
        rw [nn, nw_y c1 x0 x1 (by omega) (by omega), Option.bind_some, if_pos rfl, C3.2 c2]
        rfl
      have m7 : mX7_shift (a7_edits z.2.1) (a7_history z.2.1) (a7_s z.2.1) (a7_thrown z.2.1) (z3 x) = some (0, a7_edits z.2.1, a7_history z.2.1, a7_s z.2.1, 2) := by
        unfold mX7_shift
        rw [z364 x0 x1, show (-18 : Int64) = z6 (-18) from rfl, show (18 : Int64) = z6 18 from rfl, ii_y c1 x0 x1 (by omega) (by omega) (by omega) (by omega), Option.bind_some, if_neg n10, C7.2 c2]
        rfl
      have E6 : ∃ σ1 o1, h_shift z.1 (z3 x) z.2.2.1 = some (2, σ1, o1) ∧ (o1 0 = o1 0) ∧ ((2 : Int32) = 0 → o1 = vp_updL z.2.2.1 0 (0)) ∧ ∀ τ, JZ z.1 τ → JZ σ1 τ := by
        apply Exists.intro
        apply Exists.intro
        refine ⟨?_, rfl, ?_, ?_⟩
        · unfold h_shift s6_shift
          rw [m6]
          rfl
        · exact fun w => absurd w (by decide)
        · exact fun τ h => h
      have E7 : ∃ v1 τ1, s7_shift z.2.1 (z3 x) = some (v1, τ1) ∧ a7_thrown τ1 = 2 ∧ ((2 : Int32) = 0 → (0) = (Int32.toInt64) v1) ∧ ∀ σ, JZ σ z.2.1 → JZ σ τ1 := by
        apply Exists.intro
        apply Exists.intro
        refine ⟨?_, ?_, ?_, ?_⟩
        · unfold s7_shift
          rw [m7]
          rfl
        · rfl
        · exact fun w => absurd w (by decide)
        · exact fun σ h => h
      obtain ⟨σ1, o1, e6, -, v6, j6⟩ := E6
      obtain ⟨w1, τ1, e7, t7, v7, j7⟩ := E7
      exact fin1 (Int32.toInt64) e6 e7 t7 (fun w => by rw [v6 w, updL_s]; exact v7 w) (j7 _ (j6 _ h))
  · have m6 : mX6_shift (a6_history_count z.1) (a6_history_kept_E_count z.1) (a6_history_kept_E_degree z.1) (a6_history_kept_E_mode z.1) (a6_history_kept_E_ws z.1) (a6_history_kept_E_xs z.1) (a6_history_kept_E_ys z.1) (a6_present_denominator z.1) (a6_present_nodes_count z.1) (a6_present_nodes_degree z.1) (a6_present_nodes_mode z.1) (a6_present_nodes_ws z.1) (a6_present_nodes_xs z.1) (a6_present_nodes_ys z.1) (a6_present_numerator z.1) (a6_present_order z.1) (a6_present_product z.1) (a6_present_sorted z.1) (a6_present_weights z.1) (z3 x) = some (2, 0, a6_history_count z.1, a6_history_kept_E_count z.1, a6_history_kept_E_degree z.1, a6_history_kept_E_mode z.1, a6_history_kept_E_ws z.1, a6_history_kept_E_xs z.1, a6_history_kept_E_ys z.1, a6_present_denominator z.1, a6_present_nodes_xs z.1, a6_present_numerator z.1, a6_present_order z.1, a6_present_product z.1, a6_present_sorted z.1, a6_present_weights z.1) := by
      unfold mX6_shift
      rw [nn, nw_n c1 x0 x1 (by omega) (by omega)]
      rfl
    have m7 : mX7_shift (a7_edits z.2.1) (a7_history z.2.1) (a7_s z.2.1) (a7_thrown z.2.1) (z3 x) = some (0, a7_edits z.2.1, a7_history z.2.1, a7_s z.2.1, 1) := by
      unfold mX7_shift
      rw [z364 x0 x1, show (-18 : Int64) = z6 (-18) from rfl, show (18 : Int64) = z6 18 from rfl, ii_n c1 x0 x1 (by omega) (by omega) (by omega) (by omega)]
      rfl
    have E6 : ∃ σ1 o1, h_shift z.1 (z3 x) z.2.2.1 = some (1, σ1, o1) ∧ (o1 0 = o1 0) ∧ ((1 : Int32) = 0 → o1 = vp_updL z.2.2.1 0 (0)) ∧ ∀ τ, JZ z.1 τ → JZ σ1 τ := by
      apply Exists.intro
      apply Exists.intro
      refine ⟨?_, rfl, ?_, ?_⟩
      · unfold h_shift s6_shift
        rw [m6]
        rfl
      · exact fun w => absurd w (by decide)
      · exact fun τ h => h
    have E7 : ∃ v1 τ1, s7_shift z.2.1 (z3 x) = some (v1, τ1) ∧ a7_thrown τ1 = 1 ∧ ((1 : Int32) = 0 → (0) = (Int32.toInt64) v1) ∧ ∀ σ, JZ σ z.2.1 → JZ σ τ1 := by
      apply Exists.intro
      apply Exists.intro
      refine ⟨?_, ?_, ?_, ?_⟩
      · unfold s7_shift
        rw [m7]
        rfl
      · rfl
      · exact fun w => absurd w (by decide)
      · exact fun σ h => h
    obtain ⟨σ1, o1, e6, -, v6, j6⟩ := E6
    obtain ⟨w1, τ1, e7, t7, v7, j7⟩ := E7
    exact fin1 (Int32.toInt64) e6 e7 t7 (fun w => by rw [v6 w, updL_s]; exact v7 w) (j7 _ (j6 _ h))
