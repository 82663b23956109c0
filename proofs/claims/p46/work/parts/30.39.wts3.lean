/-! reckonWeights and laysWeights: both lay the weights. -/
/-- one less than FU -/
def FU1 : Nat := 2047
theorem FU_s : FU = FU1 + 1 := rfl
section WT3
variable {C m d : Int} {X W : Int → Int} {xs ws s o so : Nat → Int32}
theorem gwz_b (h0 : 0 ≤ C) (h5 : C ≤ 5) (hr : Rz C (-9) 9 X) (hi : Inj C X) (hw : Rz C (-9) 9 W) (d0 : 0 ≤ d) : ∀ (n : Nat), (n : Int) ≤ C → 0 ≤ gwz C m d X W n ∧ gwz C m d X W n ≤ 17852336133120 := by
  intro n
  induction n with
  | zero => intro _; show (0 : Int) ≤ 0 ∧ (0 : Int) ≤ 17852336133120; omega
  | succ n ih =>
    intro hn
    obtain ⟨i1, i2⟩ := ih (by omega)
    have b := rwz_b (m := m) h0 h5 hr hi hw d0 (k := n) (by omega) (by omega)
    rw [show ((n + 1 : Nat) : Int) = (n : Int) + 1 by omega, gwz_s (by omega)]
    by_cases e : rwz C m d X W n = 0
    · rw [e, Int.gcd_zero_right]
      omega
    · have := gcd_le (a := gwz C m d X W n) e
      omega
theorem gwz_r (h0 : 0 ≤ C) (h5 : C ≤ 5) (hr : Rz C (-9) 9 X) (hi : Inj C X) (hw : Rz C (-9) 9 W) (d0 : 0 ≤ d) {j : Int} (j0 : 0 ≤ j) (j1 : j ≤ C) : 0 ≤ gwz C m d X W j ∧ gwz C m d X W j ≤ 17852336133120 := by
  have := gwz_b (m := m) h0 h5 hr hi hw d0 j.toNat (by omega)
  rwa [show (j.toNat : Int) = j by omega] at this
theorem gwz_0 : gwz C m d X W 0 = 0 := rfl
/-- no divisor: all raw weights are 0 -/
theorem gwz_d : ∀ (n : Nat) {k : Int}, 0 ≤ k → k < n → gwz C m d X W n ∣ rwz C m d X W k := by
  intro n
  induction n with
  | zero => intro k _ _; omega
  | succ n ih =>
    intro k h1 h2
    rw [show ((n + 1 : Nat) : Int) = (n : Int) + 1 by omega, gwz_s (by omega)]
    by_cases e : k = n
    · rw [e]
      exact Int.gcd_dvd_right _ _
    · exact Int.dvd_trans (Int.gcd_dvd_left _ _) (ih h1 (by omega))
theorem gwz_dv {k : Int} (h1 : 0 ≤ k) (h2 : k < C) : gwz C m d X W C ∣ rwz C m d X W k := by
  have := gwz_d (C := C) (m := m) (d := d) (X := X) (W := W) C.toNat h1 (by omega)
  rwa [show (C.toNat : Int) = C by omega] at this
theorem wtz_m {k : Int} (k0 : 0 ≤ k) (k1 : k < C) : wtz C m d X W k * gwz C m d X W C = rwz C m d X W k := by
  unfold wtz
  by_cases e : gwz C m d X W C = 0
  · rw [if_pos e, e, Int.mul_zero]
    have := gwz_dv (m := m) (d := d) (X := X) (W := W) k0 k1
    rw [e] at this
    exact (Int.zero_dvd.1 this).symm
  · rw [if_neg e]
    exact Int.tdiv_mul_cancel (gwz_dv k0 k1)
theorem reckonWeights3 (h0 : 0 ≤ C) (h5 : C ≤ 5) (hx : En 0 C xs X) (hws : En 0 C ws W) (hr : Rz C (-9) 9 X) (hrw : Rz C (-9) 9 W) (hi : Inj C X) (hso : En 0 C so (fun p => X (ivz C X p))) (m0 : 0 ≤ m) (m1 : m ≤ 2) (d0 : 0 ≤ d) (d1 : d ≤ 4) (w0 : Nat → Int64) :
    ∃ w1, mX0_reckonWeights (z3 C) (z3 d) (z3 m) ws xs so w0 = some w1 ∧ E6 C w1 (wtz C m d X W) := by
  have sp := pair3 h0 h5 hi hr hso
  have H := runz (fun n j (a : Int × (Nat → Int64)) => lX0_reckonWeights_10 (z6 (spz X 0 C)) (z3 C) (z3 m) (z3 d) ws xs so n (z6 a.1) (z3 j) a.2)
    (fun j a => ((Int.gcd a.1 (rwz C m d X W j) : Int), vp_updL a.2 j.toNat (z6 (rwz C m d X W j)))) (fun j a => 0 ≤ j ∧ a.1 = gwz C m d X W j ∧ ∀ k, 0 ≤ k → k < j → a.2 k.toNat = z6 (rwz C m d X W k)) C (fun a => (z6 a.1, a.2))
    (fun n j a hj hp => by
      obtain ⟨p1, p2, p3⟩ := hp
      have g := gwz_r (m := m) h0 h5 hr hi hrw d0 p1 (by omega)
      have b := rwz_b (m := m) h0 h5 hr hi hrw d0 p1 hj
      refine ⟨?_, by omega, by rw [gwz_s p1, ← p2], fun k k0 k1 => ?_⟩
      · dsimp only
        have ew := hws.z p1 hj
        have rw1 := hrw j p1 hj
        simp (disch := omega) only [lX0_reckonWeights_10, mX3_size, l3_0, l3_1, l3_2, l3_3, l3_4, l3_5, l3_8, l3_9, l3_10, l3_12, l3_13, l3_14, l3_18, l3_19, l3_20, l3_24, l3_31, l3_32, l3_33, l3_45, l3_47, l3_48, l3_57, l3_58, l3_59, l3_63, l3_94, l3_97, l3_120, l3_122, l3_180, l3_200, l3_255, l3_320, l3_400, z3a, z3s, z3m, z3n, z3le, z3lt, z3eq, z3nat, z364, l6_0, l6_1, l6_2, l6_10, l6_48, z6a, z6s, z6m, z6n, if_neg, Option.bind_some, scaled3 h0 h5 hx hr hi hso p1 hj m0 m1 d0 d1, wOfz, ew]
        rw [p2]
        by_cases q : m = 2
        · have e : rwz C m d X W j = W j := if_pos q
          rw [if_pos q, updL_s, ← e, gcd3 (by omega) (by omega) (by omega) (by omega), Option.bind_some]
        · have e : rwz C m d X W j = blz C X (if m = 0 then C - 1 else min d (C - 1)) j := if_neg q
          rw [if_neg q, updL_s, ← e, gcd3 (by omega) (by omega) (by omega) (by omega), Option.bind_some]
      · dsimp only
        by_cases q : k = j
        · subst q
          exact if_pos rfl
        · exact (if_neg (by omega)).trans (p3 k k0 (by omega)))
    (fun n a hp => by
      simp (disch := omega) only [lX0_reckonWeights_10, mX3_size, l3_0, l3_1, l3_2, l3_3, l3_4, l3_5, l3_8, l3_9, l3_10, l3_12, l3_13, l3_14, l3_18, l3_19, l3_20, l3_24, l3_31, l3_32, l3_33, l3_45, l3_47, l3_48, l3_57, l3_58, l3_59, l3_63, l3_94, l3_97, l3_120, l3_122, l3_180, l3_200, l3_255, l3_320, l3_400, z3a, z3s, z3m, z3n, z3le, z3lt, z3eq, z3nat, z364, if_pos, Option.bind_some])
    C.toNat FU 0 (0, w0) (by omega) (fuel (by omega)) ⟨by omega, rfl, fun k _ _ => by omega⟩
  obtain ⟨H1, -, H2, H3⟩ := H
  dsimp only at H1
  generalize itz _ _ _ _ = r at H1 H2 H3
  have gb := gwz_r (m := m) h0 h5 hr hi hrw d0 (j := C) (by omega) (by omega)
  have hH : mX0_reckonWeights (z3 C) (z3 d) (z3 m) ws xs so w0 = (lX0_reckonWeights_87 (z6 (gwz C m d X W C)) (z3 C) FU (z3 0) r.2).bind fun r24 => some r24 := by
    unfold mX0_reckonWeights
    rw [sp, Option.bind_some, l6_0, l3_0, H1, Option.bind_some, H2]
  rw [hH]
  by_cases g1 : gwz C m d X W C ≤ 1
  · refine ⟨r.2, ?_, fun k k0 k1 => ?_⟩
    · rw [FU_s]
      by_cases c0 : C ≤ 0
      · simp (disch := omega) only [lX0_reckonWeights_87, mX3_size, l3_0, l3_1, l3_2, l3_3, l3_4, l3_5, l3_8, l3_9, l3_10, l3_12, l3_13, l3_14, l3_18, l3_19, l3_20, l3_24, l3_31, l3_32, l3_33, l3_45, l3_47, l3_48, l3_57, l3_58, l3_59, l3_63, l3_94, l3_97, l3_120, l3_122, l3_180, l3_200, l3_255, l3_320, l3_400, z3a, z3s, z3m, z3n, z3le, z3lt, z3eq, z3nat, z364, if_pos, Option.bind_some]
      · simp (disch := omega) only [lX0_reckonWeights_87, mX3_size, l3_0, l3_1, l3_2, l3_3, l3_4, l3_5, l3_8, l3_9, l3_10, l3_12, l3_13, l3_14, l3_18, l3_19, l3_20, l3_24, l3_31, l3_32, l3_33, l3_45, l3_47, l3_48, l3_57, l3_58, l3_59, l3_63, l3_94, l3_97, l3_120, l3_122, l3_180, l3_200, l3_255, l3_320, l3_400, z3a, z3s, z3m, z3n, z3le, z3lt, z3eq, z3nat, z364, l6_0, l6_1, l6_2, l6_10, l6_48, z6a, z6s, z6m, z6n, z6le, if_pos, if_neg, Option.bind_some]
    · rw [H3 k k0 k1]
      congr 1
      unfold wtz
      by_cases e : gwz C m d X W C = 0
      · rw [if_pos e]
      · rw [if_neg e, show gwz C m d X W C = 1 by omega, Int.tdiv_one]
  · have H := runz (fun n j (a : Nat → Int64) => lX0_reckonWeights_87 (z6 (gwz C m d X W C)) (z3 C) n (z3 j) a)
      (fun j a => vp_updL a j.toNat (z6 (wtz C m d X W j))) (fun j a => 0 ≤ j ∧ (∀ k, 0 ≤ k → k < j → a k.toNat = z6 (wtz C m d X W k)) ∧ ∀ k, j ≤ k → k < C → a k.toNat = z6 (rwz C m d X W k)) C (fun a => a)
      (fun n j a hj hp => by
        obtain ⟨p1, p2, p3⟩ := hp
        have b := rwz_b (m := m) h0 h5 hr hi hrw d0 p1 hj
        have e := p3 j (by omega) hj
        have e2 : wtz C m d X W j = (rwz C m d X W j).tdiv (gwz C m d X W C) := if_neg (by omega)
        refine ⟨?_, by omega, fun k k0 k1 => ?_, fun k k0 k1 => ?_⟩
        · simp (disch := omega) only [lX0_reckonWeights_87, mX3_size, l3_0, l3_1, l3_2, l3_3, l3_4, l3_5, l3_8, l3_9, l3_10, l3_12, l3_13, l3_14, l3_18, l3_19, l3_20, l3_24, l3_31, l3_32, l3_33, l3_45, l3_47, l3_48, l3_57, l3_58, l3_59, l3_63, l3_94, l3_97, l3_120, l3_122, l3_180, l3_200, l3_255, l3_320, l3_400, z3a, z3s, z3m, z3n, z3le, z3lt, z3eq, z3nat, z364, l6_0, l6_1, l6_2, l6_10, l6_48, z6a, z6s, z6m, z6n, z6le, z6eq, z6d, if_neg, Option.bind_some, e, e2]
        · by_cases q : k = j
          · subst q
            exact if_pos rfl
          · exact (if_neg (by omega)).trans (p2 k k0 (by omega))
        · exact (if_neg (by omega)).trans (p3 k (by omega) k1))
      (fun n a hp => by
        simp (disch := omega) only [lX0_reckonWeights_87, mX3_size, l3_0, l3_1, l3_2, l3_3, l3_4, l3_5, l3_8, l3_9, l3_10, l3_12, l3_13, l3_14, l3_18, l3_19, l3_20, l3_24, l3_31, l3_32, l3_33, l3_45, l3_47, l3_48, l3_57, l3_58, l3_59, l3_63, l3_94, l3_97, l3_120, l3_122, l3_180, l3_200, l3_255, l3_320, l3_400, z3a, z3s, z3m, z3n, z3le, z3lt, z3eq, z3nat, z364, if_pos, Option.bind_some])
      C.toNat FU 0 r.2 (by omega) (fuel (by omega)) ⟨by omega, fun k _ _ => by omega, fun k k0 k1 => H3 k k0 k1⟩
    obtain ⟨K1, -, K2, -⟩ := H
    generalize itz _ _ _ _ = r at K1 K2
    exact ⟨r, by rw [K1]; rfl, fun k k0 k1 => K2 k k0 k1⟩
end WT3
