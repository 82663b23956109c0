/-! Told weights: areInProportion, isSum. -/
theorem pr_gcd : ∀ a, a < 10 → ∀ b, b < 10 → lL_areInProportion_26 FU (nI a) (nI b) = some (nI (Nat.gcd a b)) := by decide +kernel
theorem gcd10 : ∀ a, a < 10 → ∀ b, b < 10 → Nat.gcd a b < 10 := by decide +kernel
theorem mab9 {w : Int} (h0 : -9 ≤ w) (h1 : w ≤ 9) : mabsi_v (z3 w) = nI w.natAbs := by
  unfold mabsi_v
  by_cases h : 0 ≤ w
  · rw [if_pos (show (0 : Int32) ≤ z3 w from (z3le (a := 0) (by omega) (by omega) (by omega) (by omega)).2 h), ← z3_nI (by omega), show ((w.natAbs : Nat) : Int) = w by omega]
  · rw [if_neg (fun (q : (0 : Int32) ≤ z3 w) => h ((z3le (a := 0) (by omega) (by omega) (by omega) (by omega)).1 q)), l3_0, z3s, ← z3_nI (by omega), show ((w.natAbs : Nat) : Int) = 0 - w by omega]
theorem rwz2 (C d : Int) (X W : Int → Int) (k : Int) : rwz C 2 d X W k = W k := if_pos rfl
section TLD
variable {a : AZ} {h : Int} {σ : S6}
theorem tl_w (hM : zM a = 2) : zw a = wtz (zC a) 2 (zD a) (zX a) (zW a) := by
  show wtz (zC a) (zM a) (zD a) (zX a) (zW a) = _
  rw [hM]
theorem a_prop {ws : Nat → Int32} (hM : zM a = 2) (hw5 : En 0 (zC a) ws (zW a)) (hJ : JA a h σ) : ∃ r σ', sL_areInProportion (z3 (zC a)) ws σ = some (r, σ') ∧ r ≠ 0 ∧ JA a h σ' := by
  have hJ9 := hJ
  obtain ⟨hO, ⟨hc, hd, hm, hw, hx, hy⟩, ⟨hv, ho, hwt⟩, hh, hf⟩ := hJ
  obtain ⟨h0, h5, m0, m1, d0, d1, hr, hry, hrw, hi⟩ := hO
  rw [tl_w hM] at hwt
  obtain ⟨G, hG⟩ : ∃ G : Int → Int, G = gwz (zC a) 2 (zD a) (zX a) (zW a) := ⟨_, rfl⟩
  have gb : ∀ n : Nat, (n : Int) ≤ zC a → 0 ≤ G n ∧ G n < 10 := by
    intro n
    induction n with
    | zero =>
      intro _
      rw [hG]
      exact ⟨Int.le_refl 0, show (0 : Int) < 10 by omega⟩
    | succ n ih =>
      intro hn
      obtain ⟨g0, g1⟩ := ih (by omega)
      have e := gwz_s (C := zC a) (m := 2) (d := zD a) (X := zX a) (W := zW a) (j := (n : Int)) (by omega)
      rw [rwz2, ← hG] at e
      have rw := hrw n (by omega) (by omega)
      have b := gcd10 (G n).natAbs (by omega) (zW a n).natAbs (by omega)
      have e2 : Int.gcd (G n) (zW a n) = Nat.gcd (G n).natAbs (zW a n).natAbs := rfl
      rw [show ((n + 1 : Nat) : Int) = (n : Int) + 1 by omega, e, e2]
      omega
  have L4 : lL_areInProportion_4 (z3 (zC a)) ws FU 0 0 = some (z3 (G (zC a))) := by
    obtain ⟨q, e, q1, q2⟩ := runr (fun n j (q : Int32) => lL_areInProportion_4 (z3 (zC a)) ws n q (z3 j)) (fun j q => 0 ≤ j ∧ q = z3 (G j)) (zC a) (fun q => q)
      (fun n j q hj hp => by
        obtain ⟨p1, p2⟩ := hp
        have g := gb j.toNat (by omega)
        rw [show ((j.toNat : Nat) : Int) = j by omega] at g
        have rw9 := hrw j p1 hj
        have e := gwz_s (C := zC a) (m := 2) (d := zD a) (X := zX a) (W := zW a) (j := j) p1
        rw [rwz2, ← hG] at e
        have b := pr_gcd (G j).natAbs (by omega) (zW a j).natAbs (by omega)
        refine ⟨z3 (G (j + 1)), ?_, by omega, rfl⟩
        rw [lL_areInProportion_4, if_neg (fun w => by have := (z3le (by omega) (by omega) (by omega) (by omega)).1 w; omega), if_neg (gix p1 (by omega) (by decide)), z3nat (by omega) (by omega), hw5.z p1 hj, mab9 rw9.1 rw9.2, p2, show z3 (G j) = nI (G j).natAbs by rw [← z3_nI (by omega), show (((G j).natAbs : Nat) : Int) = G j by omega], b, Option.bind_some, l3_1, z3a, e]
        have gl := gcd10 (G j).natAbs (by omega) (zW a j).natAbs (by omega)
        rw [← z3_nI (by omega)]
        rfl)
      (fun n q hp => by
        rw [lL_areInProportion_4, if_pos ((z3le (by omega) (by omega) (by omega) (by omega)).2 (Int.le_refl _))])
      (zC a).toNat FU 0 0 (by omega) (fuel (by omega)) ⟨by omega, by rw [hG]; rfl⟩
    have e : lL_areInProportion_4 (z3 (zC a)) ws FU 0 0 = some q := e
    rw [e, q2]
  have gC := gb (zC a).toNat (by omega)
  rw [show (((zC a).toNat : Nat) : Int) = zC a by omega] at gC
  have L60 : lL_areInProportion_60 (z3 (G (zC a))) (z3 (zC a)) ws (z3 (zC a)) (a6_present_nodes_ws σ) (a6_present_nodes_xs σ) (a6_present_nodes_ys σ) (a6_present_weights σ) FU 0 = some 1 := by
    obtain ⟨q, e, -⟩ := runr (fun n j (_ : Unit) => lL_areInProportion_60 (z3 (G (zC a))) (z3 (zC a)) ws (z3 (zC a)) (a6_present_nodes_ws σ) (a6_present_nodes_xs σ) (a6_present_nodes_ys σ) (a6_present_weights σ) n (z3 j)) (fun j _ => 0 ≤ j) (zC a) (fun _ => (1 : Nat))
      (fun n j q hj hp => by
        have p1 : 0 ≤ j := hp
        have rw9 := hrw j p1 hj
        have WT : mX6_weight (z3 (zC a)) (a6_present_weights σ) (z3 j) = some (0, z6 (wtz (zC a) 2 (zD a) (zX a) (zW a) j)) := by
          unfold mX6_weight
          rw [nt_y h0 h5 ⟨p1, hj⟩ (by omega) (by omega), Option.bind_some, if_pos rfl, weightOf3 h5 p1 hj, hwt j p1 hj]
          rfl
        have PT : mX6_point (z3 (zC a)) (a6_present_nodes_ws σ) (a6_present_nodes_xs σ) (a6_present_nodes_ys σ) (z3 j) 2 = some (0, z3 (zW a j)) := by
          unfold mX6_point
          rw [nt_y h0 h5 ⟨p1, hj⟩ (by omega) (by omega), Option.bind_some, if_pos rfl, show mX6_needBetween 2 0 3 = some 0 from rfl, Option.bind_some, if_pos rfl, if_neg (by decide), if_neg (by decide), if_pos rfl, wOfz p1 (by omega), hw.z p1 hj]
          rfl
        have e := wtz_m (C := zC a) (m := 2) (d := zD a) (X := zX a) (W := zW a) p1 hj
        rw [rwz2, ← hG] at e
        refine ⟨(), ?_, by omega⟩
        try dsimp only
        rw [lL_areInProportion_60, if_neg (fun w => by have := (z3le (by omega) (by omega) (by omega) (by omega)).1 w; omega), WT, Option.bind_some, if_pos rfl, if_neg (gix p1 (by omega) (by decide)), z3nat (by omega) (by omega), hw5.z p1 hj, z364 (by omega) (by omega), z364 (by omega) (by omega), z6m, e, if_pos rfl, PT, Option.bind_some, if_pos rfl, if_neg (show ¬ (z3 j < 0 ∨ 5 ≤ j.toNat) from fun w => gix (n := 5) p1 (by omega) (by decide) (by rw [z3nat (by omega) (by omega)]; exact w)), if_pos rfl, l3_1, z3a])
      (fun n q hp => by
        try dsimp only
        rw [lL_areInProportion_60, if_pos ((z3le (by omega) (by omega) (by omega) (by omega)).2 (Int.le_refl _))])
      (zC a).toNat FU 0 () (by omega) (fuel (by omega)) (by omega)
    exact e
  have m6 : mL_areInProportion (z3 (zC a)) ws (a6_present_nodes_count σ) (a6_present_nodes_ws σ) (a6_present_nodes_xs σ) (a6_present_nodes_ys σ) (a6_present_weights σ) = some 1 := by
    unfold mL_areInProportion
    rw [hc, L4, Option.bind_some, L60, Option.bind_some, if_neg (by decide)]
    by_cases w : 0 < G (zC a)
    · rw [if_pos (show (0 : Int32) < z3 (G (zC a)) from (z3lt (a := 0) (by omega) (by omega) (by omega) (by omega)).2 w)]
    · rw [if_neg (fun (q : (0 : Int32) < z3 (G (zC a))) => w ((z3lt (a := 0) (by omega) (by omega) (by omega) (by omega)).1 q))]
      have g0 : gwz (zC a) 2 (zD a) (zX a) (zW a) (zC a) = 0 := by rw [← hG]; omega
      have z : ∀ j, 0 ≤ j → j < zC a → wtz (zC a) 2 (zD a) (zX a) (zW a) j = 0 := fun j j0 j1 => by
        have dv := gwz_dv (C := zC a) (m := 2) (d := zD a) (X := zX a) (W := zW a) j0 j1
        rw [g0, Int.zero_dvd] at dv
        unfold wtz
        rw [if_pos g0, dv]
      have WS : mX6_weightSum (z3 (zC a)) (a6_present_weights σ) = some 0 := by
        obtain ⟨q, e, -⟩ := runr (fun n j (_ : Unit) => lX6_weightSum_4 (z3 (zC a)) (a6_present_weights σ) n 0 (z3 j)) (fun j _ => 0 ≤ j) (zC a) (fun _ => (0 : Int64))
          (fun n j q hj hp => by
            have p1 : 0 ≤ j := hp
            refine ⟨(), ?_, by omega⟩
            try dsimp only
            rw [lX6_weightSum_4, mX3_size, Option.bind_some, if_neg (fun w => by have := (z3le (by omega) (by omega) (by omega) (by omega)).1 w; omega), weightOf3 h5 p1 hj, Option.bind_some, hwt j p1 hj, z j p1 hj, l3_1, z3a]
            rfl)
          (fun n q hp => by
            try dsimp only
            rw [lX6_weightSum_4, mX3_size, Option.bind_some, if_pos ((z3le (by omega) (by omega) (by omega) (by omega)).2 (Int.le_refl _))])
          (zC a).toNat FU 0 () (by omega) (fuel (by omega)) (by omega)
        have e : lX6_weightSum_4 (z3 (zC a)) (a6_present_weights σ) FU 0 0 = some 0 := e
        unfold mX6_weightSum
        rw [e]
        rfl
      rw [WS, Option.bind_some, if_pos rfl]
  refine ⟨1, ?_⟩
  apply Exists.intro
  refine ⟨?_, by decide, ?_⟩
  · unfold sL_areInProportion
    rw [m6]
    rfl
  · exact hJ9
theorem ev_s (q : Int → Int) (x : Int) : smz (fun p => pdz (fun _ => x) p.toNat 0 * q p) 5 0 = evz q x := by
  show pdz (fun _ => x) (Int.toNat 0) 0 * q 0 + (pdz (fun _ => x) (Int.toNat 1) 0 * q 1 + (pdz (fun _ => x) (Int.toNat 2) 0 * q 2 + (pdz (fun _ => x) (Int.toNat 3) 0 * q 3 + (pdz (fun _ => x) (Int.toNat 4) 0 * q 4 + 0)))) = _
  show 1 * q 0 + ((x * 1) * q 1 + ((x * (x * 1)) * q 2 + ((x * (x * (x * 1))) * q 3 + ((x * (x * (x * (x * 1)))) * q 4 + 0)))) = _
  unfold evz
  grind
theorem a_sum {xs ys : Nat → Int32} {x : Int} (hx5 : En 0 (zC a) xs (zX a)) (hy5 : En 0 (zC a) ys (zY a)) (hJ : JA a h σ) (x0 : -12 ≤ x) (x1 : x ≤ 12) : ∃ r σ', sL_isSum (z3 (zC a)) xs ys σ (z3 x) = some (r, σ') ∧ r ≠ 0 ∧ JA a h σ' := by
  have hJ9 := hJ
  obtain ⟨hO, ⟨hc, hd, hm, hw, hx, hy⟩, ⟨hv, ho, hwt⟩, hh, hf⟩ := hJ
  have hbw := hO.bw
  obtain ⟨h0, h5, m0, m1, d0, d1, hr, hry, hrw, hi⟩ := hO
  have IN : ∀ k, 0 ≤ k → k < zC a → lL_isSum_34 (z3 x) (z3 k) (z3 (zC a)) xs FU (z6 (zw a k)) 0 = some (z6 (zw a k * woz (zX a) k x (zC a).toNat)) := fun k k0 k1 => by
    obtain ⟨q, e, q1, q2⟩ := runr (fun n j (q : Int64) => lL_isSum_34 (z3 x) (z3 k) (z3 (zC a)) xs n q (z3 j)) (fun j q => 0 ≤ j ∧ q = z6 (zw a k * woz (zX a) k x j.toNat)) (zC a) (fun q => q)
      (fun n j q hj hp => by
        obtain ⟨p1, p2⟩ := hp
        have r9 := hr j p1 hj
        refine ⟨z6 (zw a k * woz (zX a) k x (j + 1).toNat), ?_, by omega, rfl⟩
        rw [show (j + 1).toNat = j.toNat + 1 by omega, woz_s, show ((j.toNat : Nat) : Int) = j by omega, lL_isSum_34, if_neg (fun w => by have := (z3le (by omega) (by omega) (by omega) (by omega)).1 w; omega), p2]
        by_cases w : j = k
        · rw [if_pos (by rw [w]), if_pos w, Int.mul_one, show (1 : Int64) = z6 1 from rfl, z6m, Int.mul_one, l3_1, z3a]
        · rw [if_neg (fun q => w ((z3eq (by omega) (by omega) (by omega) (by omega)).1 q)), if_neg w, if_neg (gix p1 (by omega) (by decide)), z3nat (by omega) (by omega), hx5.z p1 hj, z3s, z364 (by omega) (by omega), z6m, l3_1, z3a, Int.mul_assoc])
      (fun n q hp => by
        rw [lL_isSum_34, if_pos ((z3le (by omega) (by omega) (by omega) (by omega)).2 (Int.le_refl _))])
      (zC a).toNat FU 0 (z6 (zw a k)) (by omega) (fuel (by omega)) ⟨by omega, by show _ = z6 (zw a k * 1); rw [Int.mul_one]⟩
    have e : lL_isSum_34 (z3 x) (z3 k) (z3 (zC a)) xs FU (z6 (zw a k)) 0 = some q := e
    rw [e, q2]
  have N1 : smz (fun k => zw a k * woz (zX a) k x (zC a).toNat) (zC a).toNat 0 = nmv (zC a) (zX a) (zY a) (zw a) x 1 := by
    unfold nmv plv
    rw [Tz1]
  have N0 : smz (fun k => zw a k * woz (zX a) k x (zC a).toNat * zY a k) (zC a).toNat 0 = nmv (zC a) (zX a) (zY a) (zw a) x 0 := by
    unfold nmv plv
    rw [Tz0]
    exact smz_c _ _ (fun k _ _ => by grind)
  have L14 : lL_isSum_14 (z3 x) (z3 (zC a)) xs ys (z3 (zC a)) (a6_present_weights σ) FU 0 0 0 = some (z6 (nmv (zC a) (zX a) (zY a) (zw a) x 0), z6 (nmv (zC a) (zX a) (zY a) (zw a) x 1)) := by
    obtain ⟨q, e, q1, q2, q3⟩ := runr (fun n j (q : Int64 × Int64) => lL_isSum_14 (z3 x) (z3 (zC a)) xs ys (z3 (zC a)) (a6_present_weights σ) n q.1 q.2 (z3 j)) (fun j q => 0 ≤ j ∧ q.1 = z6 (smz (fun k => zw a k * woz (zX a) k x (zC a).toNat * zY a k) j.toNat 0) ∧ q.2 = z6 (smz (fun k => zw a k * woz (zX a) k x (zC a).toNat) j.toNat 0)) (zC a) (fun q => (q.1, q.2))
      (fun n j q hj hp => by
        obtain ⟨p1, p2, p3⟩ := hp
        have ry := hry j p1 hj
        have WT : mX6_weight (z3 (zC a)) (a6_present_weights σ) (z3 j) = some (0, z6 (zw a j)) := by
          unfold mX6_weight
          rw [nt_y h0 h5 ⟨p1, hj⟩ (by omega) (by omega), Option.bind_some, if_pos rfl, weightOf3 h5 p1 hj, hwt j p1 hj]
          rfl
        refine ⟨(z6 (smz (fun k => zw a k * woz (zX a) k x (zC a).toNat * zY a k) (j + 1).toNat 0), z6 (smz (fun k => zw a k * woz (zX a) k x (zC a).toNat) (j + 1).toNat 0)), ?_, by omega, rfl, rfl⟩
        try dsimp only
        rw [lL_isSum_14, if_neg (fun w => by have := (z3le (by omega) (by omega) (by omega) (by omega)).1 w; omega), WT, Option.bind_some, if_pos rfl, IN j p1 hj, Option.bind_some, if_neg (gix p1 (by omega) (by decide)), z3nat (by omega) (by omega), hy5.z p1 hj, z364 (by omega) (by omega), p2, p3, z6m, z6a, z6a, l3_1, z3a, smz_j _ p1, smz_j _ p1])
      (fun n q hp => by
        try dsimp only
        rw [lL_isSum_14, if_pos ((z3le (by omega) (by omega) (by omega) (by omega)).2 (Int.le_refl _))])
      (zC a).toNat FU 0 (0, 0) (by omega) (fuel (by omega)) ⟨by omega, rfl, rfl⟩
    have e : lL_isSum_14 (z3 x) (z3 (zC a)) xs ys (z3 (zC a)) (a6_present_weights σ) FU 0 0 0 = some (q.1, q.2) := e
    rw [e, q2, q3, N1, N0]
  have V1 : evz (cfz (zX a) (Tz 1 (zw a) (zY a)) (zC a).toNat (zC a).toNat) x = nmv (zC a) (zX a) (zY a) (zw a) x 1 := (cfz_v (zX a) (Tz 1 (zw a) (zY a)) (zC a).toNat x (by omega) (zC a).toNat (by omega)).1
  have V0 : evz (cfz (zX a) (Tz 0 (zw a) (zY a)) (zC a).toNat (zC a).toNat) x = nmv (zC a) (zX a) (zY a) (zw a) x 0 := (cfz_v (zX a) (Tz 0 (zw a) (zY a)) (zC a).toNat x (by omega) (zC a).toNat (by omega)).1
  have CF : ∀ (fl : Int32) (f : Int → Int), E6 5 (if fl = 0 then a6_present_numerator σ else a6_present_denominator σ) f → ∀ p, 0 ≤ p → p < 5 → mX6_coefficient (a6_present_denominator σ) (a6_present_numerator σ) fl (z3 p) = some (0, z6 (f p)) := fun fl f hf p p0 p5 => by
    unfold mX6_coefficient
    rw [l3_0, l3_4, nb_y ⟨p0, by omega⟩ (by omega) (by omega) (by omega) (by omega) (by omega) (by omega), Option.bind_some, if_pos rfl, factor3 fl hf p0 p5]
    rfl
  have L108 : lL_isSum_108 (z3 x) (a6_present_denominator σ) (a6_present_numerator σ) FU 0 0 1 0 = some (z6 (nmv (zC a) (zX a) (zY a) (zw a) x 0), z6 (nmv (zC a) (zX a) (zY a) (zw a) x 1)) := by
    obtain ⟨q, e, q1, q2, q3, q4⟩ := runr (fun n j (q : Int64 × Int64 × Int64) => lL_isSum_108 (z3 x) (a6_present_denominator σ) (a6_present_numerator σ) n q.1 q.2.1 q.2.2 (z3 j)) (fun j q => 0 ≤ j ∧ q.1 = z6 (smz (fun p => pdz (fun _ => x) p.toNat 0 * cfz (zX a) (Tz 0 (zw a) (zY a)) (zC a).toNat (zC a).toNat p) j.toNat 0) ∧ q.2.1 = z6 (smz (fun p => pdz (fun _ => x) p.toNat 0 * cfz (zX a) (Tz 1 (zw a) (zY a)) (zC a).toNat (zC a).toNat p) j.toNat 0) ∧ q.2.2 = z6 (pdz (fun _ => x) j.toNat 0)) 5 (fun q => (q.1, q.2.1))
      (fun n j q hj hp => by
        obtain ⟨p1, p2, p3, p4⟩ := hp
        refine ⟨(z6 (smz (fun p => pdz (fun _ => x) p.toNat 0 * cfz (zX a) (Tz 0 (zw a) (zY a)) (zC a).toNat (zC a).toNat p) (j + 1).toNat 0), z6 (smz (fun p => pdz (fun _ => x) p.toNat 0 * cfz (zX a) (Tz 1 (zw a) (zY a)) (zC a).toNat (zC a).toNat p) (j + 1).toNat 0), z6 (pdz (fun _ => x) (j + 1).toNat 0)), ?_, by omega, rfl, rfl, rfl⟩
        try dsimp only
        rw [lL_isSum_108, if_neg (fun w => by have := (z3le (a := 5) (by omega) (by omega) (by omega) (by omega)).1 w; omega), CF 0 _ (hv.fl 0) j p1 hj, Option.bind_some, if_pos rfl, CF 1 _ (hv.fl 1) j p1 hj, Option.bind_some, if_pos rfl, p2, p3, p4, z364 (by omega) (by omega), z6m, z6m, z6m, z6a, z6a, l3_1, z3a, smz_j _ p1, smz_j _ p1, show (j + 1).toNat = j.toNat + 1 by omega, pdz_e])
      (fun n q hp => by
        try dsimp only
        rw [lL_isSum_108, if_pos (show (5 : Int32) ≤ z3 5 by decide)])
      5 FU 0 (0, 0, 1) (by omega) (by decide) ⟨by omega, rfl, rfl, rfl⟩
    have e : lL_isSum_108 (z3 x) (a6_present_denominator σ) (a6_present_numerator σ) FU 0 0 1 0 = some (q.1, q.2.1) := e
    have s0 := ev_s (cfz (zX a) (Tz 0 (zw a) (zY a)) (zC a).toNat (zC a).toNat) x
    have s1 := ev_s (cfz (zX a) (Tz 1 (zw a) (zY a)) (zC a).toNat (zC a).toNat) x
    rw [e, q2, q3, show Int.toNat 5 = 5 from rfl, s0, s1, V0, V1]
  have KD := a_kind (x := x) hJ9 x0 x1
  have nb0 := (nmv_b h0 h5 hr hry hbw x0 x1 0).1
  have nb1 := (nmv_b h0 h5 hr hry hbw x0 x1 1).1
  have i1 : z6 (nmv (zC a) (zX a) (zY a) (zw a) x 1) = 0 ↔ nmv (zC a) (zX a) (zY a) (zw a) x 1 = 0 := z6eq (b := 0) (by omega) (by omega) (by omega) (by omega)
  have i0 : z6 (nmv (zC a) (zX a) (zY a) (zw a) x 0) = 0 ↔ nmv (zC a) (zX a) (zY a) (zw a) x 0 = 0 := z6eq (b := 0) (by omega) (by omega) (by omega) (by omega)
  have m6 : ∃ B t, mL_isSum (z3 (zC a)) xs ys (a6_answer_bottom σ) (a6_answer_top σ) (a6_present_denominator σ) (a6_present_nodes_count σ) (a6_present_numerator σ) (a6_present_weights σ) (z3 x) = some (1, B, t) := by
    unfold mL_isSum
    rw [hc, L14, Option.bind_some, L108, Option.bind_some, if_pos rfl, if_pos rfl, KD, Option.bind_some, if_pos rfl]
    by_cases w1 : nmv (zC a) (zX a) (zY a) (zw a) x 1 = 0
    · rw [if_pos (i1.2 w1)]
      by_cases w0 : nmv (zC a) (zX a) (zY a) (zw a) x 0 = 0
      · rw [if_pos (i0.2 w0)]
        have hk : kiz (zC a) (zX a) (zY a) (zw a) x = 1 ∨ kiz (zC a) (zX a) (zY a) (zw a) x = 3 := by
          unfold kiz knz
          rw [if_pos w1, if_pos w0]
          split
          · exact Or.inr rfl
          · exact Or.inl rfl
        rcases hk with hk | hk
        · rw [if_pos (by rw [hk]; rfl)]
          exact ⟨_, _, rfl⟩
        · rw [if_neg (by rw [hk]; decide), if_pos (by rw [hk]; rfl)]
          exact ⟨_, _, rfl⟩
      · rw [if_neg (fun z => w0 (i0.1 z))]
        have hk : kiz (zC a) (zX a) (zY a) (zw a) x = 2 := by
          unfold kiz knz
          rw [if_pos w1, if_neg w0]
        rw [if_pos (by rw [hk]; rfl)]
        exact ⟨_, _, rfl⟩
    · rw [if_neg (fun z => w1 (i1.1 z))]
      have hk : kiz (zC a) (zX a) (zY a) (zw a) x = 0 := by
        unfold kiz knz
        rw [if_neg w1]
      have M0 := a_valm (k := 0) (a6_answer_bottom σ) (a6_answer_top σ) hJ9 x0 x1 (by omega) (by omega)
      have M1 := a_valm (k := 1) (z6 (vB (zC a) (zX a) (zY a) (zw a) x)) (z6 (vT (zC a) (zX a) (zY a) (zw a) x)) hJ9 x0 x1 (by omega) (by omega)
      rw [if_pos rfl] at M0
      rw [if_neg (by decide)] at M1
      have M0 : mX6_value (a6_answer_bottom σ) (a6_answer_top σ) (a6_present_denominator σ) (a6_present_numerator σ) (z3 x) 0 = _ := M0
      have M1 : mX6_value (z6 (vB (zC a) (zX a) (zY a) (zw a) x)) (z6 (vT (zC a) (zX a) (zY a) (zw a) x)) (a6_present_denominator σ) (a6_present_numerator σ) (z3 x) 1 = _ := M1
      have ec : vT (zC a) (zX a) (zY a) (zw a) x * nmv (zC a) (zX a) (zY a) (zw a) x 1 = vB (zC a) (zX a) (zY a) (zw a) x * nmv (zC a) (zX a) (zY a) (zw a) x 0 := by
        unfold vT vB
        rw [if_neg w1, if_neg w1]
        exact rd_cr w1
      rw [if_pos (by rw [hk]; rfl), M0, Option.bind_some, if_pos rfl, M1, Option.bind_some, if_pos rfl, if_pos (by rw [z6m, z6m, ec])]
      exact ⟨_, _, rfl⟩
  obtain ⟨B, t, m6⟩ := m6
  refine ⟨1, ?_⟩
  apply Exists.intro
  refine ⟨?_, by decide, ?_⟩
  · unfold sL_isSum
    rw [m6]
    rfl
  · exact hJ9
end TLD
