/-! The polynomials of the class. -/
section PL3
variable {C : Int} {X Y : Int → Int} {xs ys : Nat → Int32}
theorem mul3_in (h5 : C ≤ 5) (hx : En 0 C xs X) (hr : Rz C (-9) 9 X) {k : Int} (k0 : 0 ≤ k) (k1 : k < C) {q : Int → Int} {f : Nat → Int64} (hf : E6 5 f q) : ∃ f1, lX0_reckonProduct_48 (z3 k) xs FU (z3 4) f = some f1 ∧ E6 5 f1 (mlz (X k) q) := by
  have H := runr (fun n j (a : Nat → Int64) => lX0_reckonProduct_48 (z3 k) xs n (z3 (4 - j)) a) (fun j a => 0 ≤ j ∧ (∀ p, 0 ≤ p → p ≤ 4 - j → a p.toNat = z6 (q p)) ∧ (∀ p, 4 - j < p → p < 5 → a p.toNat = z6 (mlz (X k) q p))) 5 (fun a => a)
    (fun n j a hj hp => by
      obtain ⟨p1, p2, p3⟩ := hp
      have e1 := hx.z k0 k1
      have r1 := hr k k0 k1
      have u1 := p2 (4 - j) (by omega) (by omega)
      by_cases w : j = 4
      · subst w
        refine ⟨vp_updL a 0 (z6 (mlz (X k) q 0)), ?_, by omega, fun p h1 h2 => by omega, fun p h1 h2 => ?_⟩
        · have u1 : a 0 = z6 (q 0) := u1
          simp (disch := omega) only [lX0_reckonProduct_48, l3_0, l3_1, l3_2, l3_3, l3_4, l3_5, l3_8, l3_9, l3_10, l3_12, l3_13, l3_14, l3_18, l3_19, l3_20, l3_24, l3_31, l3_32, l3_33, l3_45, l3_47, l3_48, l3_57, l3_58, l3_59, l3_63, l3_94, l3_97, l3_120, l3_122, l3_180, l3_200, l3_255, l3_320, l3_400, z3a, z3s, z3m, z3n, z3le, z3lt, z3eq, z3nat, z364, l6_0, l6_1, l6_2, l6_10, l6_48, z6a, z6s, z6m, z6n, if_neg, if_pos, xOfz, Option.bind_some, e1, u1, Int.reduceSub, Int.reduceToNat, Int.reduceAdd, Int.reduceNeg]
          rfl
        · by_cases v : p = 0
          · subst v
            exact if_pos rfl
          · exact (if_neg (by omega)).trans (p3 p (by omega) h2)
      · have u2 := p2 (4 - j - 1) (by omega) (by omega)
        refine ⟨vp_updL a (4 - j).toNat (z6 (mlz (X k) q (4 - j))), ?_, by omega, fun p h1 h2 => ?_, fun p h1 h2 => ?_⟩
        · have m1 : mlz (X k) q (4 - j) = q (4 - j - 1) - X k * q (4 - j) := by
            unfold mlz
            rw [if_neg (by omega)]
          simp (disch := omega) only [lX0_reckonProduct_48, l3_0, l3_1, l3_2, l3_3, l3_4, l3_5, l3_8, l3_9, l3_10, l3_12, l3_13, l3_14, l3_18, l3_19, l3_20, l3_24, l3_31, l3_32, l3_33, l3_45, l3_47, l3_48, l3_57, l3_58, l3_59, l3_63, l3_94, l3_97, l3_120, l3_122, l3_180, l3_200, l3_255, l3_320, l3_400, z3a, z3s, z3m, z3n, z3le, z3lt, z3eq, z3nat, z364, l6_0, l6_1, l6_2, l6_10, l6_48, z6a, z6s, z6m, z6n, if_neg, xOfz, Option.bind_some, e1, u1, u2, m1]
          rw [show (4 : Int) - j + -1 = 4 - (j + 1) by omega]
        · exact (if_neg (by omega)).trans (p2 p h1 (by omega))
        · by_cases v : p = 4 - j
          · subst v
            exact if_pos rfl
          · exact (if_neg (by omega)).trans (p3 p (by omega) h2))
    (fun n a hp => by
      simp (disch := omega) only [lX0_reckonProduct_48, l3_0, l3_1, l3_2, l3_3, l3_4, l3_5, l3_8, l3_9, l3_10, l3_12, l3_13, l3_14, l3_18, l3_19, l3_20, l3_24, l3_31, l3_32, l3_33, l3_45, l3_47, l3_48, l3_57, l3_58, l3_59, l3_63, l3_94, l3_97, l3_120, l3_122, l3_180, l3_200, l3_255, l3_320, l3_400, z3a, z3s, z3m, z3n, z3le, z3lt, z3eq, z3nat, z364, if_pos, Int.reduceSub])
    5 FU 0 f (by omega) (by decide) ⟨by omega, fun p h1 h2 => hf p h1 (by omega), fun p h1 h2 => by omega⟩
  obtain ⟨f1, a, b, c, d⟩ := H
  exact ⟨f1, a, fun p h1 h2 => d p (by omega) h2⟩
theorem product3 (h0 : 0 ≤ C) (h5 : C ≤ 5) (hx : En 0 C xs X) (hr : Rz C (-9) 9 X) {k : Int} (k0 : 0 ≤ k) (k1 : k < C) (f : Nat → Int64) : ∃ f1, mX0_reckonProduct (z3 C) xs f (z3 k) = some f1 ∧ E6 5 f1 (prt X k C.toNat) := by
  have H := runr (fun n j (a : Nat → Int64) => lX0_reckonProduct_2 n (z3 j) a) (fun j a => 0 ≤ j ∧ (∀ p, 0 ≤ p → p < j → a p.toNat = z6 (onz p))) 5 (fun a => a)
    (fun n j a hj hp => by
      obtain ⟨p1, p2⟩ := hp
      refine ⟨vp_updL a j.toNat (z6 (onz j)), ?_, by omega, fun p h1 h2 => ?_⟩
      · unfold onz
        by_cases w : j = 0
        · rw [if_pos w]
          simp (disch := omega) only [lX0_reckonProduct_2, l3_0, l3_1, l3_2, l3_3, l3_4, l3_5, l3_8, l3_9, l3_10, l3_12, l3_13, l3_14, l3_18, l3_19, l3_20, l3_24, l3_31, l3_32, l3_33, l3_45, l3_47, l3_48, l3_57, l3_58, l3_59, l3_63, l3_94, l3_97, l3_120, l3_122, l3_180, l3_200, l3_255, l3_320, l3_400, z3a, z3s, z3m, z3n, z3le, z3lt, z3eq, z3nat, z364, l6_0, l6_1, l6_2, l6_10, l6_48, z6a, z6s, z6m, z6n, if_neg, if_pos]
        · simp (disch := omega) only [lX0_reckonProduct_2, l3_0, l3_1, l3_2, l3_3, l3_4, l3_5, l3_8, l3_9, l3_10, l3_12, l3_13, l3_14, l3_18, l3_19, l3_20, l3_24, l3_31, l3_32, l3_33, l3_45, l3_47, l3_48, l3_57, l3_58, l3_59, l3_63, l3_94, l3_97, l3_120, l3_122, l3_180, l3_200, l3_255, l3_320, l3_400, z3a, z3s, z3m, z3n, z3le, z3lt, z3eq, z3nat, z364, l6_0, l6_1, l6_2, l6_10, l6_48, z6a, z6s, z6m, z6n, if_neg]
      · by_cases v : p = j
        · subst v
          exact if_pos rfl
        · exact (if_neg (by omega)).trans (p2 p h1 (by omega)))
    (fun n a hp => by
      simp (disch := omega) only [lX0_reckonProduct_2, l3_0, l3_1, l3_2, l3_3, l3_4, l3_5, l3_8, l3_9, l3_10, l3_12, l3_13, l3_14, l3_18, l3_19, l3_20, l3_24, l3_31, l3_32, l3_33, l3_45, l3_47, l3_48, l3_57, l3_58, l3_59, l3_63, l3_94, l3_97, l3_120, l3_122, l3_180, l3_200, l3_255, l3_320, l3_400, z3a, z3s, z3m, z3n, z3le, z3lt, z3eq, z3nat, z364, if_pos])
    5 FU 0 f (by omega) (by decide) ⟨by omega, fun p h1 h2 => by omega⟩
  obtain ⟨f1, a1, b1, c1⟩ := H
  have H := runr (fun n j (a : Nat → Int64) => lX0_reckonProduct_30 (z3 k) (z3 C) xs n (z3 j) a) (fun j a => 0 ≤ j ∧ E6 5 a (prt X k j.toNat)) C (fun a => a)
    (fun n j a hj hp => by
      obtain ⟨p1, p2⟩ := hp
      rw [show (j + 1).toNat = j.toNat + 1 by omega, prt_s, show (j.toNat : Int) = j by omega]
      by_cases w : j = k
      · rw [if_pos w]
        refine ⟨a, ?_, by omega, p2⟩
        simp (disch := omega) only [lX0_reckonProduct_30, mX3_size, l3_0, l3_1, l3_2, l3_3, l3_4, l3_5, l3_8, l3_9, l3_10, l3_12, l3_13, l3_14, l3_18, l3_19, l3_20, l3_24, l3_31, l3_32, l3_33, l3_45, l3_47, l3_48, l3_57, l3_58, l3_59, l3_63, l3_94, l3_97, l3_120, l3_122, l3_180, l3_200, l3_255, l3_320, l3_400, z3a, z3s, z3m, z3n, z3le, z3lt, z3eq, z3nat, z364, if_neg, if_pos, Option.bind_some]
      · rw [if_neg w]
        obtain ⟨f2, g1, g2⟩ := mul3_in h5 hx hr p1 hj p2
        refine ⟨f2, ?_, by omega, g2⟩
        simp (disch := omega) only [lX0_reckonProduct_30, mX3_size, l3_0, l3_1, l3_2, l3_3, l3_4, l3_5, l3_8, l3_9, l3_10, l3_12, l3_13, l3_14, l3_18, l3_19, l3_20, l3_24, l3_31, l3_32, l3_33, l3_45, l3_47, l3_48, l3_57, l3_58, l3_59, l3_63, l3_94, l3_97, l3_120, l3_122, l3_180, l3_200, l3_255, l3_320, l3_400, z3a, z3s, z3m, z3n, z3le, z3lt, z3eq, z3nat, z364, if_neg, Option.bind_some, g1])
    (fun n a hp => by
      simp (disch := omega) only [lX0_reckonProduct_30, mX3_size, l3_0, l3_1, l3_2, l3_3, l3_4, l3_5, l3_8, l3_9, l3_10, l3_12, l3_13, l3_14, l3_18, l3_19, l3_20, l3_24, l3_31, l3_32, l3_33, l3_45, l3_47, l3_48, l3_57, l3_58, l3_59, l3_63, l3_94, l3_97, l3_120, l3_122, l3_180, l3_200, l3_255, l3_320, l3_400, z3a, z3s, z3m, z3n, z3le, z3lt, z3eq, z3nat, z364, if_pos, Option.bind_some])
    C.toNat FU 0 f1 (by omega) (fuel (by omega)) ⟨by omega, c1⟩
  obtain ⟨f2, a2, b2, c2⟩ := H
  refine ⟨f2, ?_, c2⟩
  unfold mX0_reckonProduct
  rw [l3_0, a1, Option.bind_some, a2]
  rfl
theorem weightOf3 (h5 : C ≤ 5) {w : Nat → Int64} {k : Int} (k0 : 0 ≤ k) (k1 : k < C) : mX0_weightOf (z3 C) w (z3 k) = some (w k.toNat) := by
  unfold mX0_weightOf mX3_size
  simp (disch := omega) only [l3_0, l3_1, l3_2, l3_3, l3_4, l3_5, l3_8, l3_9, l3_10, l3_12, l3_13, l3_14, l3_18, l3_19, l3_20, l3_24, l3_31, l3_32, l3_33, l3_45, l3_47, l3_48, l3_57, l3_58, l3_59, l3_63, l3_94, l3_97, l3_120, l3_122, l3_180, l3_200, l3_255, l3_320, l3_400, z3a, z3s, z3m, z3n, z3le, z3lt, z3eq, z3nat, z364, if_neg, Option.bind_some]
theorem add3_in (h5 : C ≤ 5) (hy : En 0 C ys Y) (hry : Rz C (-20) 20 Y) {wt : Int → Int} {w pr : Nat → Int64} (hw : E6 C w wt) {q : Int → Int} (hq : E6 5 pr q) {k : Int} (k0 : 0 ≤ k) (k1 : k < C) {d n : Int → Int} {fd fn : Nat → Int64} (hd : E6 5 fd d) (hn : E6 5 fn n) :
    ∃ fd1 fn1, lX0_reckonPolynomials_47 (z3 k) (z3 C) ys pr w FU (z3 0) fd fn = some (fd1, fn1) ∧ E6 5 fd1 (fun p => d p + wt k * q p) ∧ E6 5 fn1 (fun p => n p + wt k * Y k * q p) := by
  have H := runr (fun n j (a : (Nat → Int64) × (Nat → Int64)) => lX0_reckonPolynomials_47 (z3 k) (z3 C) ys pr w n (z3 j) a.1 a.2) (fun j a => 0 ≤ j ∧ (∀ p, 0 ≤ p → p < j → a.1 p.toNat = z6 (d p + wt k * q p) ∧ a.2 p.toNat = z6 (n p + wt k * Y k * q p)) ∧ (∀ p, j ≤ p → p < 5 → a.1 p.toNat = z6 (d p) ∧ a.2 p.toNat = z6 (n p))) 5 (fun a => a)
    (fun m j a hj hp => by
      obtain ⟨p1, p2, p3⟩ := hp
      have e1 := hy.z k0 k1
      have e2 := hw k k0 k1
      have e3 := hq j p1 hj
      obtain ⟨u1, u2⟩ := p3 j (by omega) hj
      have r1 := hry k k0 k1
      refine ⟨(vp_updL a.1 j.toNat (z6 (d j + wt k * q j)), vp_updL a.2 j.toNat (z6 (n j + wt k * Y k * q j))), ?_, by omega, fun p h1 h2 => ?_, fun p h1 h2 => ?_⟩
      · dsimp only
        simp (disch := omega) only [lX0_reckonPolynomials_47, weightOf3, yOfz, l3_0, l3_1, l3_2, l3_3, l3_4, l3_5, l3_8, l3_9, l3_10, l3_12, l3_13, l3_14, l3_18, l3_19, l3_20, l3_24, l3_31, l3_32, l3_33, l3_45, l3_47, l3_48, l3_57, l3_58, l3_59, l3_63, l3_94, l3_97, l3_120, l3_122, l3_180, l3_200, l3_255, l3_320, l3_400, z3a, z3s, z3m, z3n, z3le, z3lt, z3eq, z3nat, z364, l6_0, l6_1, l6_2, l6_10, l6_48, z6a, z6s, z6m, z6n, if_neg, Option.bind_some, e1, e2, e3, u1, u2]
        rw [Int.mul_right_comm (wt k) (Y k)]
      · by_cases v : p = j
        · subst v
          exact ⟨if_pos rfl, if_pos rfl⟩
        · have := p2 p h1 (by omega)
          exact ⟨(if_neg (by omega)).trans this.1, (if_neg (by omega)).trans this.2⟩
      · have := p3 p (by omega) h2
        exact ⟨(if_neg (by omega)).trans this.1, (if_neg (by omega)).trans this.2⟩)
    (fun n a hp => by
      simp (disch := omega) only [lX0_reckonPolynomials_47, l3_0, l3_1, l3_2, l3_3, l3_4, l3_5, l3_8, l3_9, l3_10, l3_12, l3_13, l3_14, l3_18, l3_19, l3_20, l3_24, l3_31, l3_32, l3_33, l3_45, l3_47, l3_48, l3_57, l3_58, l3_59, l3_63, l3_94, l3_97, l3_120, l3_122, l3_180, l3_200, l3_255, l3_320, l3_400, z3a, z3s, z3m, z3n, z3le, z3lt, z3eq, z3nat, z364, if_pos])
    5 FU 0 (fd, fn) (by omega) (by decide) ⟨by omega, fun p h1 h2 => by omega, fun p h1 h2 => ⟨hd p (by omega) h2, hn p (by omega) h2⟩⟩
  obtain ⟨r, a, b, c, -⟩ := H
  exact ⟨r.1, r.2, a, fun p h1 h2 => (c p h1 h2).1, fun p h1 h2 => (c p h1 h2).2⟩
theorem polys3 (h0 : 0 ≤ C) (h5 : C ≤ 5) (hx : En 0 C xs X) (hy : En 0 C ys Y) (hr : Rz C (-9) 9 X) (hry : Rz C (-20) 20 Y) {wt : Int → Int} {w : Nat → Int64} (hw : E6 C w wt) (fd fn fp : Nat → Int64) :
    ∃ fd1 fn1 fp1, mX0_reckonPolynomials fd (z3 C) xs ys fn fp w = some (fd1, fn1, fp1) ∧ E6 5 fd1 (cfz X wt C.toNat C.toNat) ∧ E6 5 fn1 (cfz X (fun k => wt k * Y k) C.toNat C.toNat) := by
  have H := runr (fun n j (a : (Nat → Int64) × (Nat → Int64)) => lX0_reckonPolynomials_2 n (z3 j) a.1 a.2) (fun j a => 0 ≤ j ∧ (∀ p, 0 ≤ p → p < j → a.1 p.toNat = z6 0 ∧ a.2 p.toNat = z6 0)) 5 (fun a => a)
    (fun n j a hj hp => by
      obtain ⟨p1, p2⟩ := hp
      refine ⟨(vp_updL a.1 j.toNat (z6 0), vp_updL a.2 j.toNat (z6 0)), ?_, by omega, fun p h1 h2 => ?_⟩
      · dsimp only
        simp (disch := omega) only [lX0_reckonPolynomials_2, l3_0, l3_1, l3_2, l3_3, l3_4, l3_5, l3_8, l3_9, l3_10, l3_12, l3_13, l3_14, l3_18, l3_19, l3_20, l3_24, l3_31, l3_32, l3_33, l3_45, l3_47, l3_48, l3_57, l3_58, l3_59, l3_63, l3_94, l3_97, l3_120, l3_122, l3_180, l3_200, l3_255, l3_320, l3_400, z3a, z3s, z3m, z3n, z3le, z3lt, z3eq, z3nat, z364, l6_0, l6_1, l6_2, l6_10, l6_48, z6a, z6s, z6m, z6n, if_neg]
      · by_cases v : p = j
        · subst v
          exact ⟨if_pos rfl, if_pos rfl⟩
        · have := p2 p h1 (by omega)
          exact ⟨(if_neg (by omega)).trans this.1, (if_neg (by omega)).trans this.2⟩)
    (fun n a hp => by
      simp (disch := omega) only [lX0_reckonPolynomials_2, l3_0, l3_1, l3_2, l3_3, l3_4, l3_5, l3_8, l3_9, l3_10, l3_12, l3_13, l3_14, l3_18, l3_19, l3_20, l3_24, l3_31, l3_32, l3_33, l3_45, l3_47, l3_48, l3_57, l3_58, l3_59, l3_63, l3_94, l3_97, l3_120, l3_122, l3_180, l3_200, l3_255, l3_320, l3_400, z3a, z3s, z3m, z3n, z3le, z3lt, z3eq, z3nat, z364, if_pos])
    5 FU 0 (fd, fn) (by omega) (by decide) ⟨by omega, fun p h1 h2 => by omega⟩
  obtain ⟨r, a1, b1, c1⟩ := H
  have H := runr (fun n j (a : (Nat → Int64) × (Nat → Int64) × (Nat → Int64)) => lX0_reckonPolynomials_29 (z3 C) xs ys w n (z3 j) a.1 a.2.1 a.2.2) (fun j a => 0 ≤ j ∧ E6 5 a.1 (cfz X wt C.toNat j.toNat) ∧ E6 5 a.2.1 (cfz X (fun k => wt k * Y k) C.toNat j.toNat)) C (fun a => a)
    (fun n j a hj hp => by
      obtain ⟨p1, p2, p3⟩ := hp
      obtain ⟨f1, g1, g2⟩ := product3 h0 h5 hx hr p1 hj a.2.2
      obtain ⟨fd1, fn1, k1, k2, k3⟩ := add3_in h5 hy hry hw g2 p1 hj p2 p3
      refine ⟨(fd1, fn1, f1), ?_, by omega, ?_, ?_⟩
      · dsimp only
        simp (disch := omega) only [lX0_reckonPolynomials_29, mX3_size, l3_0, l3_1, l3_2, l3_3, l3_4, l3_5, l3_8, l3_9, l3_10, l3_12, l3_13, l3_14, l3_18, l3_19, l3_20, l3_24, l3_31, l3_32, l3_33, l3_45, l3_47, l3_48, l3_57, l3_58, l3_59, l3_63, l3_94, l3_97, l3_120, l3_122, l3_180, l3_200, l3_255, l3_320, l3_400, z3a, z3s, z3m, z3n, z3le, z3lt, z3eq, z3nat, z364, if_neg, Option.bind_some, g1, k1]
      · intro p h1 h2
        rw [show (j + 1).toNat = j.toNat + 1 by omega, cfz_s, show (j.toNat : Int) = j by omega]
        exact k2 p h1 h2
      · intro p h1 h2
        rw [show (j + 1).toNat = j.toNat + 1 by omega, cfz_s, show (j.toNat : Int) = j by omega]
        exact k3 p h1 h2)
    (fun n a hp => by
      simp (disch := omega) only [lX0_reckonPolynomials_29, mX3_size, l3_0, l3_1, l3_2, l3_3, l3_4, l3_5, l3_8, l3_9, l3_10, l3_12, l3_13, l3_14, l3_18, l3_19, l3_20, l3_24, l3_31, l3_32, l3_33, l3_45, l3_47, l3_48, l3_57, l3_58, l3_59, l3_63, l3_94, l3_97, l3_120, l3_122, l3_180, l3_200, l3_255, l3_320, l3_400, z3a, z3s, z3m, z3n, z3le, z3lt, z3eq, z3nat, z364, if_pos, Option.bind_some])
    C.toNat FU 0 (r.1, r.2, fp) (by omega) (fuel (by omega)) ⟨by omega, fun p h1 h2 => (c1 p h1 h2).1, fun p h1 h2 => (c1 p h1 h2).2⟩
  obtain ⟨q, a2, b2, c2, d2⟩ := H
  refine ⟨q.1, q.2.1, q.2.2, ?_, c2, d2⟩
  unfold mX0_reckonPolynomials
  rw [l3_0, a1, Option.bind_some, a2]
  rfl
end PL3
section AT3
variable {fd fn : Nat → Int64} {d n : Int → Int}
theorem factor3 (p1 : Int32) {f : Int → Int} (hf : E6 5 (if p1 = 0 then fn else fd) f) {p : Int} (h1 : 0 ≤ p) (h2 : p < 5) : mX0_factor fd fn p1 (z3 p) = some (z6 (f p)) := by
  have g1 : ¬ z3 p < 0 := by rw [l3_0, z3lt (by omega) (by omega) (by omega) (by omega)]; omega
  have g2 : z3 p < 5 := by rw [l3_5, z3lt (by omega) (by omega) (by omega) (by omega)]; omega
  have g3 : ¬ (z3 p < 0 ∨ 5 ≤ Int32.toNatClampNeg (z3 p)) := by rw [z3nat (by omega) (by omega), l3_0, z3lt (by omega) (by omega) (by omega) (by omega)]; omega
  unfold mX0_factor
  rw [if_neg g1, if_pos g2, if_neg g3, if_neg g3, z3nat (by omega) (by omega)]
  by_cases h : p1 = 0
  · rw [if_pos h, ← hf p h1 h2, if_pos h]
  · rw [if_neg h, ← hf p h1 h2, if_neg h]
theorem at3 (p1 : Int32) {f : Int → Int} (hf : E6 5 (if p1 = 0 then fn else fd) f) {x : Int} (x0 : -100 ≤ x) (x1 : x ≤ 100) : mX0_at fd fn p1 (z3 x) = some (z6 (evz f x)) := by
  have H := runz (fun n j (a : Int) => lX0_at_5 p1 (z3 x) fd fn n (z6 a) (z3 (4 - j))) (fun j a => a * x + f (4 - j)) (fun j a => 0 ≤ j) 5 z6
    (fun n j a hj hp => by
      have hp : 0 ≤ j := hp
      refine ⟨?_, by omega⟩
      have e := factor3 p1 hf (p := 4 - j) (by omega) (by omega)
      simp (disch := omega) only [lX0_at_5, e, l3_0, l3_1, l3_2, l3_3, l3_4, l3_5, l3_8, l3_9, l3_10, l3_12, l3_13, l3_14, l3_18, l3_19, l3_20, l3_24, l3_31, l3_32, l3_33, l3_45, l3_47, l3_48, l3_57, l3_58, l3_59, l3_63, l3_94, l3_97, l3_120, l3_122, l3_180, l3_200, l3_255, l3_320, l3_400, z3a, z3s, z3m, z3n, z3le, z3lt, z3eq, z3nat, z364, l6_0, l6_1, l6_2, l6_10, l6_48, z6a, z6s, z6m, z6n, if_neg, Option.bind_some]
      rw [show (4 : Int) - j + -1 = 4 - (j + 1) by omega])
    (fun n a hp => by
      simp (disch := omega) only [lX0_at_5, l3_0, l3_1, l3_2, l3_3, l3_4, l3_5, l3_8, l3_9, l3_10, l3_12, l3_13, l3_14, l3_18, l3_19, l3_20, l3_24, l3_31, l3_32, l3_33, l3_45, l3_47, l3_48, l3_57, l3_58, l3_59, l3_63, l3_94, l3_97, l3_120, l3_122, l3_180, l3_200, l3_255, l3_320, l3_400, z3a, z3s, z3m, z3n, z3le, z3lt, z3eq, z3nat, z364, if_pos, Int.reduceSub])
    5 FU 0 0 (by omega) (by decide) (by omega)
  unfold mX0_at
  rw [l6_0, l3_4]
  have := H.1
  rw [show (4 : Int) - 0 = 4 by omega] at this
  rw [this]
  rfl
theorem dat3 (p1 : Int32) {f : Int → Int} (hf : E6 5 (if p1 = 0 then fn else fd) f) {x : Int} (x0 : -100 ≤ x) (x1 : x ≤ 100) : mX0_derivativeAt fd fn p1 (z3 x) = some (z6 (dvz f x)) := by
  have H := runz (fun n j (a : Int) => lX0_derivativeAt_5 p1 (z3 x) fd fn n (z6 a) (z3 (4 - j))) (fun j a => a * x + (4 - j) * f (4 - j)) (fun j a => 0 ≤ j) 4 z6
    (fun n j a hj hp => by
      have hp : 0 ≤ j := hp
      refine ⟨?_, by omega⟩
      have e := factor3 p1 hf (p := 4 - j) (by omega) (by omega)
      simp (disch := omega) only [lX0_derivativeAt_5, e, l3_0, l3_1, l3_2, l3_3, l3_4, l3_5, l3_8, l3_9, l3_10, l3_12, l3_13, l3_14, l3_18, l3_19, l3_20, l3_24, l3_31, l3_32, l3_33, l3_45, l3_47, l3_48, l3_57, l3_58, l3_59, l3_63, l3_94, l3_97, l3_120, l3_122, l3_180, l3_200, l3_255, l3_320, l3_400, z3a, z3s, z3m, z3n, z3le, z3lt, z3eq, z3nat, z364, l6_0, l6_1, l6_2, l6_10, l6_48, z6a, z6s, z6m, z6n, if_neg, Option.bind_some]
      rw [show (4 : Int) - j + -1 = 4 - (j + 1) by omega])
    (fun n a hp => by
      simp (disch := omega) only [lX0_derivativeAt_5, l3_0, l3_1, l3_2, l3_3, l3_4, l3_5, l3_8, l3_9, l3_10, l3_12, l3_13, l3_14, l3_18, l3_19, l3_20, l3_24, l3_31, l3_32, l3_33, l3_45, l3_47, l3_48, l3_57, l3_58, l3_59, l3_63, l3_94, l3_97, l3_120, l3_122, l3_180, l3_200, l3_255, l3_320, l3_400, z3a, z3s, z3m, z3n, z3le, z3lt, z3eq, z3nat, z364, if_pos, Int.reduceSub])
    4 FU 0 0 (by omega) (by decide) (by omega)
  unfold mX0_derivativeAt
  rw [l6_0, l3_4]
  have := H.1
  rw [show (4 : Int) - 0 = 4 by omega] at this
  rw [this]
  rfl
end AT3
