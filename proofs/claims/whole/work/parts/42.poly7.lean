/-! The polynomials of the reference. -/
def Tz (fl : Int32) (wt Y : Int → Int) (k : Int) : Int := if fl = 0 then wt k * Y k else wt k
section PL7
variable {C : Int} {X Y wt : Int → Int} {s : Nat → Int32} {w : Nat → Int64}
theorem times7 (h5 : C ≤ 5) (hy : En 8 C s Y) (hry : Rz C (-20) 20 Y) (hw : E6 C w wt) (fl : Int32) {k : Int} (k0 : 0 ≤ k) (k1 : k < C) : mX7_timesOf s w (z3 k) fl = some (z6 (Tz fl wt Y k)) := by
  have e1 := hy k k0 k1
  have r1 := hry k k0 k1
  have e2 := hw k k0 k1
  have g1 : ¬ (z3 k < 0 ∨ 5 ≤ Int32.toNatClampNeg (z3 k)) := by rw [z3nat (by omega) (by omega), l3_0, z3lt (by omega) (by omega) (by omega) (by omega)]; omega
  have g2 : ¬ (8 + z3 k < 0 ∨ 18 ≤ Int32.toNatClampNeg (8 + z3 k)) := by rw [l3_8, z3a, z3nat (by omega) (by omega), l3_0, z3lt (by omega) (by omega) (by omega) (by omega)]; omega
  unfold mX7_timesOf Tz
  by_cases h : fl = 0
  · rw [if_pos h, if_pos h, if_neg g1, if_neg g2, l3_8, z3a, z3nat (by omega) (by omega), z3nat (by omega) (by omega), e1, e2, z364 (by omega) (by omega), z6m]
  · rw [if_neg h, if_neg h, if_neg g1, z3nat (by omega) (by omega), e2]
theorem wo7_in (h0 : 0 ≤ C) (h5 : C ≤ 5) (hs2 : s 2 = z3 C) (hx : En 3 C s X) (hr : Rz C (-9) 9 X) {k : Int} (k0 : 0 ≤ k) (k1 : k < C) {x : Int} (x0 : -100 ≤ x) (x1 : x ≤ 100) : mX7_withoutAt s (z3 k) (z3 x) = some (z6 (woz X k x C.toNat)) := by
  have H := runz (fun n j (a : Int) => lX7_withoutAt_5 (z3 k) (z3 x) s n (z6 a) (z3 j)) (fun j a => a * (if j = k then 1 else x - X j)) (fun j a => 0 ≤ j) C z6
    (fun n j a hj hp => by
      have hp : 0 ≤ j := hp
      refine ⟨?_, by omega⟩
      have e1 := hx j hp hj
      have r1 := hr j hp hj
      simp (disch := omega) only [lX7_withoutAt_5, l3_0, l3_1, l3_2, l3_3, l3_4, l3_5, l3_8, l3_9, l3_10, l3_12, l3_13, l3_14, l3_18, l3_19, l3_20, l3_24, l3_31, l3_32, l3_33, l3_45, l3_47, l3_48, l3_57, l3_58, l3_59, l3_63, l3_94, l3_97, l3_120, l3_122, l3_180, l3_200, l3_255, l3_320, l3_400, z3a, z3s, z3m, z3n, z3le, z3lt, z3eq, z3nat, z364, l6_0, l6_1, l6_2, l6_10, l6_48, z6a, z6s, z6m, z6n, Int.reduceToNat, hs2, if_neg, e1]
      by_cases q : j = k
      · rw [if_pos q, if_pos q]
      · rw [if_neg q, if_neg q])
    (fun n a hp => by
      simp (disch := omega) only [lX7_withoutAt_5, l3_0, l3_1, l3_2, l3_3, l3_4, l3_5, l3_8, l3_9, l3_10, l3_12, l3_13, l3_14, l3_18, l3_19, l3_20, l3_24, l3_31, l3_32, l3_33, l3_45, l3_47, l3_48, l3_57, l3_58, l3_59, l3_63, l3_94, l3_97, l3_120, l3_122, l3_180, l3_200, l3_255, l3_320, l3_400, z3a, z3s, z3m, z3n, z3le, z3lt, z3eq, z3nat, z364, Int.reduceToNat, hs2, if_pos, if_neg])
    C.toNat FU 0 1 (by omega) (fuel (by omega)) (by omega)
  rw [itz_p, Int.one_mul] at H
  unfold mX7_withoutAt
  rw [l6_1, l3_0, H.1]
  rfl
theorem sw7_in (h0 : 0 ≤ C) (h5 : C ≤ 5) (hs2 : s 2 = z3 C) (hx : En 3 C s X) (hr : Rz C (-9) 9 X) {k b : Int} (k0 : 0 ≤ k) (k1 : k < C) (b0 : 0 ≤ b) (b1 : b < C) {x : Int} (x0 : -100 ≤ x) (x1 : x ≤ 100) (a : Int) : lX7_slopeWithoutAt_32 (z3 k) (z3 x) (z3 b) s FU (z6 a) (z3 0) = some (z6 (a * pdz (fun j => if j = k then 1 else if j = b then 1 else x - X j) C.toNat 0)) := by
  have H := runz (fun n j (a : Int) => lX7_slopeWithoutAt_32 (z3 k) (z3 x) (z3 b) s n (z6 a) (z3 j)) (fun j a => a * (if j = k then 1 else if j = b then 1 else x - X j)) (fun j a => 0 ≤ j) C z6
    (fun n j a hj hp => by
      have hp : 0 ≤ j := hp
      refine ⟨?_, by omega⟩
      have e1 := hx j hp hj
      have r1 := hr j hp hj
      simp (disch := omega) only [lX7_slopeWithoutAt_32, l3_0, l3_1, l3_2, l3_3, l3_4, l3_5, l3_8, l3_9, l3_10, l3_12, l3_13, l3_14, l3_18, l3_19, l3_20, l3_24, l3_31, l3_32, l3_33, l3_45, l3_47, l3_48, l3_57, l3_58, l3_59, l3_63, l3_94, l3_97, l3_120, l3_122, l3_180, l3_200, l3_255, l3_320, l3_400, z3a, z3s, z3m, z3n, z3le, z3lt, z3eq, z3nat, z364, l6_0, l6_1, l6_2, l6_10, l6_48, z6a, z6s, z6m, z6n, Int.reduceToNat, hs2, if_neg, e1]
      by_cases q : j = k
      · rw [if_pos q, if_pos q]
      · rw [if_neg q, if_neg q]
        by_cases q2 : j = b
        · rw [if_pos q2, if_pos q2]
        · rw [if_neg q2, if_neg q2])
    (fun n a hp => by
      simp (disch := omega) only [lX7_slopeWithoutAt_32, l3_0, l3_1, l3_2, l3_3, l3_4, l3_5, l3_8, l3_9, l3_10, l3_12, l3_13, l3_14, l3_18, l3_19, l3_20, l3_24, l3_31, l3_32, l3_33, l3_45, l3_47, l3_48, l3_57, l3_58, l3_59, l3_63, l3_94, l3_97, l3_120, l3_122, l3_180, l3_200, l3_255, l3_320, l3_400, z3a, z3s, z3m, z3n, z3le, z3lt, z3eq, z3nat, z364, Int.reduceToNat, hs2, if_pos, if_neg])
    C.toNat FU 0 a (by omega) (fuel (by omega)) (by omega)
  rw [itz_p] at H
  exact H.1
theorem sw7 (h0 : 0 ≤ C) (h5 : C ≤ 5) (hs2 : s 2 = z3 C) (hx : En 3 C s X) (hr : Rz C (-9) 9 X) {k : Int} (k0 : 0 ≤ k) (k1 : k < C) {x : Int} (x0 : -100 ≤ x) (x1 : x ≤ 100) : mX7_slopeWithoutAt s (z3 k) (z3 x) = some (z6 (swz X k x C.toNat)) := by
  have H := runz (fun n j (a : Int) => lX7_slopeWithoutAt_5 (z3 k) (z3 x) s n (z6 a) (z3 j)) (fun b a => a + (if b = k then 0 else 1) * pdz (fun j => if j = k then 1 else if j = b then 1 else x - X j) C.toNat 0) (fun j a => 0 ≤ j) C z6
    (fun n j a hj hp => by
      have hp : 0 ≤ j := hp
      refine ⟨?_, by omega⟩
      have e0 := sw7_in h0 h5 hs2 hx hr k0 k1 hp hj x0 x1 0
      have e1 := sw7_in h0 h5 hs2 hx hr k0 k1 hp hj x0 x1 1
      generalize pdz (fun j_1 => if j_1 = k then 1 else if j_1 = j then 1 else x - X j_1) C.toNat 0 = P at e0 e1 ⊢
      simp (disch := omega) only [lX7_slopeWithoutAt_5, l3_0, l3_1, l3_2, l3_3, l3_4, l3_5, l3_8, l3_9, l3_10, l3_12, l3_13, l3_14, l3_18, l3_19, l3_20, l3_24, l3_31, l3_32, l3_33, l3_45, l3_47, l3_48, l3_57, l3_58, l3_59, l3_63, l3_94, l3_97, l3_120, l3_122, l3_180, l3_200, l3_255, l3_320, l3_400, z3a, z3s, z3m, z3n, z3le, z3lt, z3eq, z3nat, z364, l6_0, l6_1, l6_2, l6_10, l6_48, z6a, z6s, z6m, z6n, Int.reduceToNat, hs2, if_neg, Option.bind_some, e0, e1]
      by_cases q : j = k
      · rw [if_pos q, if_pos q]
      · rw [if_neg q, if_neg q])
    (fun n a hp => by
      simp (disch := omega) only [lX7_slopeWithoutAt_5, l3_0, l3_1, l3_2, l3_3, l3_4, l3_5, l3_8, l3_9, l3_10, l3_12, l3_13, l3_14, l3_18, l3_19, l3_20, l3_24, l3_31, l3_32, l3_33, l3_45, l3_47, l3_48, l3_57, l3_58, l3_59, l3_63, l3_94, l3_97, l3_120, l3_122, l3_180, l3_200, l3_255, l3_320, l3_400, z3a, z3s, z3m, z3n, z3le, z3lt, z3eq, z3nat, z364, Int.reduceToNat, hs2, if_pos, if_neg])
    C.toNat FU 0 0 (by omega) (fuel (by omega)) (by omega)
  rw [itz_s, Int.zero_add] at H
  unfold mX7_slopeWithoutAt
  rw [l6_0, l3_0, H.1]
  rfl
theorem poly7 (h0 : 0 ≤ C) (h5 : C ≤ 5) (hs2 : s 2 = z3 C) (hx : En 3 C s X) (hy : En 8 C s Y) (hr : Rz C (-9) 9 X) (hry : Rz C (-20) 20 Y) (hw : E6 C w wt) (fl : Int32) {x : Int} (x0 : -100 ≤ x) (x1 : x ≤ 100) : mX7_polynomialAt s w fl (z3 x) = some (z6 (plv X (Tz fl wt Y) C.toNat C.toNat x)) := by
  have H := runz (fun n j (a : Int) => lX7_polynomialAt_5 fl (z3 x) s w n (z6 a) (z3 j)) (fun k a => a + Tz fl wt Y k * woz X k x C.toNat) (fun j a => 0 ≤ j) C z6
    (fun n j a hj hp => by
      have hp : 0 ≤ j := hp
      refine ⟨?_, by omega⟩
      simp (disch := omega) only [lX7_polynomialAt_5, times7 h5 hy hry hw fl hp hj, wo7_in h0 h5 hs2 hx hr hp hj x0 x1, l3_0, l3_1, l3_2, l3_3, l3_4, l3_5, l3_8, l3_9, l3_10, l3_12, l3_13, l3_14, l3_18, l3_19, l3_20, l3_24, l3_31, l3_32, l3_33, l3_45, l3_47, l3_48, l3_57, l3_58, l3_59, l3_63, l3_94, l3_97, l3_120, l3_122, l3_180, l3_200, l3_255, l3_320, l3_400, z3a, z3s, z3m, z3n, z3le, z3lt, z3eq, z3nat, z364, l6_0, l6_1, l6_2, l6_10, l6_48, z6a, z6s, z6m, z6n, Int.reduceToNat, hs2, if_neg, Option.bind_some])
    (fun n a hp => by
      simp (disch := omega) only [lX7_polynomialAt_5, l3_0, l3_1, l3_2, l3_3, l3_4, l3_5, l3_8, l3_9, l3_10, l3_12, l3_13, l3_14, l3_18, l3_19, l3_20, l3_24, l3_31, l3_32, l3_33, l3_45, l3_47, l3_48, l3_57, l3_58, l3_59, l3_63, l3_94, l3_97, l3_120, l3_122, l3_180, l3_200, l3_255, l3_320, l3_400, z3a, z3s, z3m, z3n, z3le, z3lt, z3eq, z3nat, z364, Int.reduceToNat, hs2, if_pos, if_neg])
    C.toNat FU 0 0 (by omega) (fuel (by omega)) (by omega)
  rw [itz_s, Int.zero_add] at H
  unfold mX7_polynomialAt
  rw [l6_0, l3_0, H.1]
  rfl
theorem slopeAt7 (h0 : 0 ≤ C) (h5 : C ≤ 5) (hs2 : s 2 = z3 C) (hx : En 3 C s X) (hy : En 8 C s Y) (hr : Rz C (-9) 9 X) (hry : Rz C (-20) 20 Y) (hw : E6 C w wt) (fl : Int32) {x : Int} (x0 : -100 ≤ x) (x1 : x ≤ 100) : mX7_slopeAt s w fl (z3 x) = some (z6 (dlv X (Tz fl wt Y) C.toNat C.toNat x)) := by
  have H := runz (fun n j (a : Int) => lX7_slopeAt_5 fl (z3 x) s w n (z6 a) (z3 j)) (fun k a => a + Tz fl wt Y k * swz X k x C.toNat) (fun j a => 0 ≤ j) C z6
    (fun n j a hj hp => by
      have hp : 0 ≤ j := hp
      refine ⟨?_, by omega⟩
      simp (disch := omega) only [lX7_slopeAt_5, times7 h5 hy hry hw fl hp hj, sw7 h0 h5 hs2 hx hr hp hj x0 x1, l3_0, l3_1, l3_2, l3_3, l3_4, l3_5, l3_8, l3_9, l3_10, l3_12, l3_13, l3_14, l3_18, l3_19, l3_20, l3_24, l3_31, l3_32, l3_33, l3_45, l3_47, l3_48, l3_57, l3_58, l3_59, l3_63, l3_94, l3_97, l3_120, l3_122, l3_180, l3_200, l3_255, l3_320, l3_400, z3a, z3s, z3m, z3n, z3le, z3lt, z3eq, z3nat, z364, l6_0, l6_1, l6_2, l6_10, l6_48, z6a, z6s, z6m, z6n, Int.reduceToNat, hs2, if_neg, Option.bind_some])
    (fun n a hp => by
      simp (disch := omega) only [lX7_slopeAt_5, l3_0, l3_1, l3_2, l3_3, l3_4, l3_5, l3_8, l3_9, l3_10, l3_12, l3_13, l3_14, l3_18, l3_19, l3_20, l3_24, l3_31, l3_32, l3_33, l3_45, l3_47, l3_48, l3_57, l3_58, l3_59, l3_63, l3_94, l3_97, l3_120, l3_122, l3_180, l3_200, l3_255, l3_320, l3_400, z3a, z3s, z3m, z3n, z3le, z3lt, z3eq, z3nat, z364, Int.reduceToNat, hs2, if_pos, if_neg])
    C.toNat FU 0 0 (by omega) (fuel (by omega)) (by omega)
  rw [itz_s, Int.zero_add] at H
  unfold mX7_slopeAt
  rw [l6_0, l3_0, H.1]
  rfl
theorem mul7_in (h5 : C ≤ 5) (hx : En 3 C s X) (hr : Rz C (-9) 9 X) {k b : Int} (k0 : 0 ≤ k) (k1 : k < C) (b0 : 0 ≤ b) (b1 : b < C) (hb : k ≠ b) {q : Int → Int} {f : Nat → Int64} (hf : E6 5 f q) : ∃ f1, lX7_laysProduct_42 (z3 b) (z3 k) s FU (z3 4) f = some f1 ∧ E6 5 f1 (mlz (X k) q) := by
  have H := runr (fun n j (a : Nat → Int64) => lX7_laysProduct_42 (z3 b) (z3 k) s n (z3 (4 - j)) a) (fun j a => 0 ≤ j ∧ (∀ p, 0 ≤ p → p ≤ 4 - j → a p.toNat = z6 (q p)) ∧ (∀ p, 4 - j < p → p < 5 → a p.toNat = z6 (mlz (X k) q p))) 5 (fun a => a)
    (fun n j a hj hp => by
      obtain ⟨p1, p2, p3⟩ := hp
      have e1 := hx k k0 k1
      have r1 := hr k k0 k1
      have u1 := p2 (4 - j) (by omega) (by omega)
      by_cases w : j = 4
      · subst w
        refine ⟨vp_updL a 0 (z6 (mlz (X k) q 0)), ?_, by omega, fun p h1 h2 => by omega, fun p h1 h2 => ?_⟩
        · have u1 : a 0 = z6 (q 0) := u1
          simp (disch := omega) only [lX7_laysProduct_42, l3_0, l3_1, l3_2, l3_3, l3_4, l3_5, l3_8, l3_9, l3_10, l3_12, l3_13, l3_14, l3_18, l3_19, l3_20, l3_24, l3_31, l3_32, l3_33, l3_45, l3_47, l3_48, l3_57, l3_58, l3_59, l3_63, l3_94, l3_97, l3_120, l3_122, l3_180, l3_200, l3_255, l3_320, l3_400, z3a, z3s, z3m, z3n, z3le, z3lt, z3eq, z3nat, z364, l6_0, l6_1, l6_2, l6_10, l6_48, z6a, z6s, z6m, z6n, if_neg, if_pos, e1, u1, Int.reduceSub, Int.reduceToNat, Int.reduceAdd, Int.reduceNeg]
          rfl
        · by_cases v : p = 0
          · subst v
            exact if_pos rfl
          · exact (if_neg (by omega)).trans (p3 p (by omega) h2)
      · have u2 := p2 (4 - j - 1) (by omega) (by omega)
        refine ⟨vp_updL a (4 - j).toNat (z6 (mlz (X k) q (4 - j))), ?_, by omega, fun p h1 h2 => ?_, fun p h1 h2 => ?_⟩
        · have m1 : mlz (X k) q (4 - j) = q (4 - j - 1) - X k * q (4 - j) := by
            unfold mlz
            rw [if_neg (by omega)]
          simp (disch := omega) only [lX7_laysProduct_42, l3_0, l3_1, l3_2, l3_3, l3_4, l3_5, l3_8, l3_9, l3_10, l3_12, l3_13, l3_14, l3_18, l3_19, l3_20, l3_24, l3_31, l3_32, l3_33, l3_45, l3_47, l3_48, l3_57, l3_58, l3_59, l3_63, l3_94, l3_97, l3_120, l3_122, l3_180, l3_200, l3_255, l3_320, l3_400, z3a, z3s, z3m, z3n, z3le, z3lt, z3eq, z3nat, z364, l6_0, l6_1, l6_2, l6_10, l6_48, z6a, z6s, z6m, z6n, if_neg, e1, u1, u2, m1]
          rw [show (4 : Int) - j + -1 = 4 - (j + 1) by omega]
        · exact (if_neg (by omega)).trans (p2 p h1 (by omega))
        · by_cases v : p = 4 - j
          · subst v
            exact if_pos rfl
          · exact (if_neg (by omega)).trans (p3 p (by omega) h2))
    (fun n a hp => by
      simp (disch := omega) only [lX7_laysProduct_42, l3_0, l3_1, l3_2, l3_3, l3_4, l3_5, l3_8, l3_9, l3_10, l3_12, l3_13, l3_14, l3_18, l3_19, l3_20, l3_24, l3_31, l3_32, l3_33, l3_45, l3_47, l3_48, l3_57, l3_58, l3_59, l3_63, l3_94, l3_97, l3_120, l3_122, l3_180, l3_200, l3_255, l3_320, l3_400, z3a, z3s, z3m, z3n, z3le, z3lt, z3eq, z3nat, z364, if_pos, Int.reduceSub])
    5 FU 0 f (by omega) (by decide) ⟨by omega, fun p h1 h2 => hf p h1 (by omega), fun p h1 h2 => by omega⟩
  obtain ⟨f1, a, b, c, d⟩ := H
  exact ⟨f1, a, fun p h1 h2 => d p (by omega) h2⟩
theorem mul7_no {k : Int} (h5 : C ≤ 5) (k0 : 0 ≤ k) (k1 : k < C) (f : Nat → Int64) : lX7_laysProduct_42 (z3 k) (z3 k) s FU (z3 4) f = some f := by
  have g1 : ¬ z3 4 < 0 := by decide
  rw [FU_s, lX7_laysProduct_42, if_neg g1, if_pos rfl]
theorem product7 (h0 : 0 ≤ C) (h5 : C ≤ 5) (hs2 : s 2 = z3 C) (hx : En 3 C s X) (hr : Rz C (-9) 9 X) {k : Int} (k0 : 0 ≤ k) (k1 : k < C) (f : Nat → Int64) : ∃ f1, mX7_laysProduct f s (z3 k) = some f1 ∧ E6 5 f1 (prt X k C.toNat) := by
  have H := runr (fun n j (a : Nat → Int64) => lX7_laysProduct_2 n (z3 j) a) (fun j a => 0 ≤ j ∧ (∀ p, 0 ≤ p → p < j → a p.toNat = z6 (onz p))) 5 (fun a => a)
    (fun n j a hj hp => by
      obtain ⟨p1, p2⟩ := hp
      refine ⟨vp_updL a j.toNat (z6 (onz j)), ?_, by omega, fun p h1 h2 => ?_⟩
      · unfold onz
        by_cases w : j = 0
        · rw [if_pos w]
          simp (disch := omega) only [lX7_laysProduct_2, l3_0, l3_1, l3_2, l3_3, l3_4, l3_5, l3_8, l3_9, l3_10, l3_12, l3_13, l3_14, l3_18, l3_19, l3_20, l3_24, l3_31, l3_32, l3_33, l3_45, l3_47, l3_48, l3_57, l3_58, l3_59, l3_63, l3_94, l3_97, l3_120, l3_122, l3_180, l3_200, l3_255, l3_320, l3_400, z3a, z3s, z3m, z3n, z3le, z3lt, z3eq, z3nat, z364, l6_0, l6_1, l6_2, l6_10, l6_48, z6a, z6s, z6m, z6n, if_neg, if_pos]
        · simp (disch := omega) only [lX7_laysProduct_2, l3_0, l3_1, l3_2, l3_3, l3_4, l3_5, l3_8, l3_9, l3_10, l3_12, l3_13, l3_14, l3_18, l3_19, l3_20, l3_24, l3_31, l3_32, l3_33, l3_45, l3_47, l3_48, l3_57, l3_58, l3_59, l3_63, l3_94, l3_97, l3_120, l3_122, l3_180, l3_200, l3_255, l3_320, l3_400, z3a, z3s, z3m, z3n, z3le, z3lt, z3eq, z3nat, z364, l6_0, l6_1, l6_2, l6_10, l6_48, z6a, z6s, z6m, z6n, if_neg]
      · by_cases v : p = j
        · subst v
          exact if_pos rfl
        · exact (if_neg (by omega)).trans (p2 p h1 (by omega)))
    (fun n a hp => by
      simp (disch := omega) only [lX7_laysProduct_2, l3_0, l3_1, l3_2, l3_3, l3_4, l3_5, l3_8, l3_9, l3_10, l3_12, l3_13, l3_14, l3_18, l3_19, l3_20, l3_24, l3_31, l3_32, l3_33, l3_45, l3_47, l3_48, l3_57, l3_58, l3_59, l3_63, l3_94, l3_97, l3_120, l3_122, l3_180, l3_200, l3_255, l3_320, l3_400, z3a, z3s, z3m, z3n, z3le, z3lt, z3eq, z3nat, z364, if_pos])
    5 FU 0 f (by omega) (by decide) ⟨by omega, fun p h1 h2 => by omega⟩
  obtain ⟨f1, a1, b1, c1⟩ := H
  have H := runr (fun n j (a : Nat → Int64) => lX7_laysProduct_30 (z3 k) s n (z3 j) a) (fun j a => 0 ≤ j ∧ E6 5 a (prt X k j.toNat)) C (fun a => a)
    (fun n j a hj hp => by
      obtain ⟨p1, p2⟩ := hp
      rw [show (j + 1).toNat = j.toNat + 1 by omega, prt_s, show (j.toNat : Int) = j by omega]
      by_cases w : j = k
      · rw [if_pos w]
        refine ⟨a, ?_, by omega, p2⟩
        subst w
        simp (disch := omega) only [lX7_laysProduct_30, mul7_no h5 k0 k1, l3_0, l3_1, l3_2, l3_3, l3_4, l3_5, l3_8, l3_9, l3_10, l3_12, l3_13, l3_14, l3_18, l3_19, l3_20, l3_24, l3_31, l3_32, l3_33, l3_45, l3_47, l3_48, l3_57, l3_58, l3_59, l3_63, l3_94, l3_97, l3_120, l3_122, l3_180, l3_200, l3_255, l3_320, l3_400, z3a, z3s, z3m, z3n, z3le, z3lt, z3eq, z3nat, z364, Int.reduceToNat, hs2, if_neg, if_pos, Option.bind_some]
      · rw [if_neg w]
        obtain ⟨f2, g1, g2⟩ := mul7_in h5 hx hr p1 hj k0 k1 w p2
        refine ⟨f2, ?_, by omega, g2⟩
        simp (disch := omega) only [lX7_laysProduct_30, l3_0, l3_1, l3_2, l3_3, l3_4, l3_5, l3_8, l3_9, l3_10, l3_12, l3_13, l3_14, l3_18, l3_19, l3_20, l3_24, l3_31, l3_32, l3_33, l3_45, l3_47, l3_48, l3_57, l3_58, l3_59, l3_63, l3_94, l3_97, l3_120, l3_122, l3_180, l3_200, l3_255, l3_320, l3_400, z3a, z3s, z3m, z3n, z3le, z3lt, z3eq, z3nat, z364, Int.reduceToNat, hs2, if_neg, Option.bind_some, g1])
    (fun n a hp => by
      simp (disch := omega) only [lX7_laysProduct_30, l3_0, l3_1, l3_2, l3_3, l3_4, l3_5, l3_8, l3_9, l3_10, l3_12, l3_13, l3_14, l3_18, l3_19, l3_20, l3_24, l3_31, l3_32, l3_33, l3_45, l3_47, l3_48, l3_57, l3_58, l3_59, l3_63, l3_94, l3_97, l3_120, l3_122, l3_180, l3_200, l3_255, l3_320, l3_400, z3a, z3s, z3m, z3n, z3le, z3lt, z3eq, z3nat, z364, Int.reduceToNat, hs2, if_pos, if_neg])
    C.toNat FU 0 f1 (by omega) (fuel (by omega)) ⟨by omega, c1⟩
  obtain ⟨f2, a2, b2, c2⟩ := H
  refine ⟨f2, ?_, c2⟩
  unfold mX7_laysProduct
  rw [l3_0, a1, Option.bind_some, a2]
  rfl
theorem add7_in (h5 : C ≤ 5) (hy : En 8 C s Y) (hry : Rz C (-20) 20 Y) {pr : Nat → Int64} (hw : E6 C w wt) (fl : Int32) {q : Int → Int} (hq : E6 5 pr q) {k : Int} (k0 : 0 ≤ k) (k1 : k < C) {d : Int → Int} {fd : Nat → Int64} (hd : E6 5 fd d) :
    ∃ fd1, lX7_laysCoefficients_43 fl (z3 k) pr s w FU (z3 0) fd = some fd1 ∧ E6 5 fd1 (fun p => d p + Tz fl wt Y k * q p) := by
  have H := runr (fun n j (a : Nat → Int64) => lX7_laysCoefficients_43 fl (z3 k) pr s w n (z3 j) a) (fun j a => 0 ≤ j ∧ (∀ p, 0 ≤ p → p < j → a p.toNat = z6 (d p + Tz fl wt Y k * q p)) ∧ (∀ p, j ≤ p → p < 5 → a p.toNat = z6 (d p))) 5 (fun a => a)
    (fun m j a hj hp => by
      obtain ⟨p1, p2, p3⟩ := hp
      have e3 := hq j p1 hj
      have u1 := p3 j (by omega) hj
      refine ⟨vp_updL a j.toNat (z6 (d j + Tz fl wt Y k * q j)), ?_, by omega, fun p h1 h2 => ?_, fun p h1 h2 => ?_⟩
      · simp (disch := omega) only [lX7_laysCoefficients_43, times7 h5 hy hry hw fl k0 k1, l3_0, l3_1, l3_2, l3_3, l3_4, l3_5, l3_8, l3_9, l3_10, l3_12, l3_13, l3_14, l3_18, l3_19, l3_20, l3_24, l3_31, l3_32, l3_33, l3_45, l3_47, l3_48, l3_57, l3_58, l3_59, l3_63, l3_94, l3_97, l3_120, l3_122, l3_180, l3_200, l3_255, l3_320, l3_400, z3a, z3s, z3m, z3n, z3le, z3lt, z3eq, z3nat, z364, l6_0, l6_1, l6_2, l6_10, l6_48, z6a, z6s, z6m, z6n, if_neg, Option.bind_some, e3, u1]
      · by_cases v : p = j
        · subst v
          exact if_pos rfl
        · exact (if_neg (by omega)).trans (p2 p h1 (by omega))
      · exact (if_neg (by omega)).trans (p3 p (by omega) h2))
    (fun n a hp => by
      simp (disch := omega) only [lX7_laysCoefficients_43, l3_0, l3_1, l3_2, l3_3, l3_4, l3_5, l3_8, l3_9, l3_10, l3_12, l3_13, l3_14, l3_18, l3_19, l3_20, l3_24, l3_31, l3_32, l3_33, l3_45, l3_47, l3_48, l3_57, l3_58, l3_59, l3_63, l3_94, l3_97, l3_120, l3_122, l3_180, l3_200, l3_255, l3_320, l3_400, z3a, z3s, z3m, z3n, z3le, z3lt, z3eq, z3nat, z364, if_pos])
    5 FU 0 fd (by omega) (by decide) ⟨by omega, fun p h1 h2 => by omega, fun p h1 h2 => hd p (by omega) h2⟩
  obtain ⟨r, a, b, c, -⟩ := H
  exact ⟨r, a, c⟩
theorem coefs7_in (h0 : 0 ≤ C) (h5 : C ≤ 5) (hs2 : s 2 = z3 C) (hx : En 3 C s X) (hy : En 8 C s Y) (hr : Rz C (-9) 9 X) (hry : Rz C (-20) 20 Y) (hw : E6 C w wt) (fl : Int32) (fc fp : Nat → Int64) :
    ∃ r : (Nat → Int64) × (Nat → Int64), ((lX7_laysCoefficients_6 FU (z3 0) fc).bind fun r5 => lX7_laysCoefficients_26 fl s w FU (z3 0) r5 fp) = some r ∧ E6 5 r.1 (cfz X (Tz fl wt Y) C.toNat C.toNat) := by
  have H := runr (fun n j (a : Nat → Int64) => lX7_laysCoefficients_6 n (z3 j) a) (fun j a => 0 ≤ j ∧ (∀ p, 0 ≤ p → p < j → a p.toNat = z6 0)) 5 (fun a => a)
    (fun n j a hj hp => by
      obtain ⟨p1, p2⟩ := hp
      refine ⟨vp_updL a j.toNat (z6 0), ?_, by omega, fun p h1 h2 => ?_⟩
      · simp (disch := omega) only [lX7_laysCoefficients_6, l3_0, l3_1, l3_2, l3_3, l3_4, l3_5, l3_8, l3_9, l3_10, l3_12, l3_13, l3_14, l3_18, l3_19, l3_20, l3_24, l3_31, l3_32, l3_33, l3_45, l3_47, l3_48, l3_57, l3_58, l3_59, l3_63, l3_94, l3_97, l3_120, l3_122, l3_180, l3_200, l3_255, l3_320, l3_400, z3a, z3s, z3m, z3n, z3le, z3lt, z3eq, z3nat, z364, l6_0, l6_1, l6_2, l6_10, l6_48, z6a, z6s, z6m, z6n, if_neg]
      · by_cases v : p = j
        · subst v
          exact if_pos rfl
        · exact (if_neg (by omega)).trans (p2 p h1 (by omega)))
    (fun n a hp => by
      simp (disch := omega) only [lX7_laysCoefficients_6, l3_0, l3_1, l3_2, l3_3, l3_4, l3_5, l3_8, l3_9, l3_10, l3_12, l3_13, l3_14, l3_18, l3_19, l3_20, l3_24, l3_31, l3_32, l3_33, l3_45, l3_47, l3_48, l3_57, l3_58, l3_59, l3_63, l3_94, l3_97, l3_120, l3_122, l3_180, l3_200, l3_255, l3_320, l3_400, z3a, z3s, z3m, z3n, z3le, z3lt, z3eq, z3nat, z364, if_pos])
    5 FU 0 fc (by omega) (by decide) ⟨by omega, fun p h1 h2 => by omega⟩
  obtain ⟨r, a1, b1, c1⟩ := H
  have H := runr (fun n j (a : (Nat → Int64) × (Nat → Int64)) => lX7_laysCoefficients_26 fl s w n (z3 j) a.1 a.2) (fun j a => 0 ≤ j ∧ E6 5 a.1 (cfz X (Tz fl wt Y) C.toNat j.toNat)) C (fun a => a)
    (fun n j a hj hp => by
      obtain ⟨p1, p2⟩ := hp
      obtain ⟨f1, g1, g2⟩ := product7 h0 h5 hs2 hx hr p1 hj a.2
      obtain ⟨fd1, k1, k2⟩ := add7_in h5 hy hry hw fl g2 p1 hj p2
      refine ⟨(fd1, f1), ?_, by omega, ?_⟩
      · dsimp only
        simp (disch := omega) only [lX7_laysCoefficients_26, l3_0, l3_1, l3_2, l3_3, l3_4, l3_5, l3_8, l3_9, l3_10, l3_12, l3_13, l3_14, l3_18, l3_19, l3_20, l3_24, l3_31, l3_32, l3_33, l3_45, l3_47, l3_48, l3_57, l3_58, l3_59, l3_63, l3_94, l3_97, l3_120, l3_122, l3_180, l3_200, l3_255, l3_320, l3_400, z3a, z3s, z3m, z3n, z3le, z3lt, z3eq, z3nat, z364, Int.reduceToNat, hs2, if_neg, Option.bind_some, g1, k1]
      · intro p h1 h2
        rw [show (j + 1).toNat = j.toNat + 1 by omega, cfz_s, show (j.toNat : Int) = j by omega]
        exact k2 p h1 h2)
    (fun n a hp => by
      simp (disch := omega) only [lX7_laysCoefficients_26, l3_0, l3_1, l3_2, l3_3, l3_4, l3_5, l3_8, l3_9, l3_10, l3_12, l3_13, l3_14, l3_18, l3_19, l3_20, l3_24, l3_31, l3_32, l3_33, l3_45, l3_47, l3_48, l3_57, l3_58, l3_59, l3_63, l3_94, l3_97, l3_120, l3_122, l3_180, l3_200, l3_255, l3_320, l3_400, z3a, z3s, z3m, z3n, z3le, z3lt, z3eq, z3nat, z364, Int.reduceToNat, hs2, if_pos, if_neg])
    C.toNat FU 0 (r, fp) (by omega) (fuel (by omega)) ⟨by omega, c1⟩
  obtain ⟨q, a2, b2, c2⟩ := H
  refine ⟨q, ?_, c2⟩
  rw [a1, Option.bind_some, a2]
end PL7
