/-! The order of the points on both sides; the product of all differences. -/
def spz (X : Int → Int) (f b : Int) : Int := pdz (fun k => pdz (fun j => ((X k - X j).natAbs : Int)) (k - f).toNat f) (b - f).toNat f
theorem spz_0 (X : Int → Int) (C : Int) : spz X 0 C = vdz X C.toNat := by
  unfold spz vdz
  rw [show (C - 0).toNat = C.toNat by omega]
  apply pdz_c
  intro k h1 h2
  try dsimp only
  rw [show (k - 0).toNat = k.toNat by omega]
section SPN
variable {C : Int} {X : Int → Int} {xs s : Nat → Int32}
theorem sort3 (h0 : 0 ≤ C) (h5 : C ≤ 5) (hx : En 0 C xs X) (hr : Rz C (-9) 9 X) (hi : Inj C X) (o so : Nat → Int32) :
    ∃ o1 so1, mX0_sort (z3 C) xs o so = some (o1, so1) ∧ En 0 C o1 (ivz C X) ∧ En 0 C so1 (fun p => X (ivz C X p)) := by
  have H := runz (fun n j (a : (Nat → Int32) × (Nat → Int32)) => lX0_sort_2 (z3 C) xs n (z3 j) a.1 a.2) (fun j a => (upd a.1 (plz C X j).toNat (z3 j), upd a.2 (plz C X j).toNat (z3 (X j))))
    (fun j a => 0 ≤ j ∧ ∀ k, 0 ≤ k → k < j → a.1 (plz C X k).toNat = z3 k ∧ a.2 (plz C X k).toNat = z3 (X k)) C (fun a => a)
    (fun n j a hj hp => by
      obtain ⟨p1, p2⟩ := hp
      have e1 := hx.z p1 hj
      have r1 := plz_ge C X j
      have r2 := plz_r (X := X) p1 hj
      refine ⟨?_, by omega, fun k k0 k1 => ?_⟩
      · try dsimp only
        simp (disch := omega) only [lX0_sort_2, mX3_size, place3 h0 h5 hx hr, l3_0, l3_1, l3_2, l3_3, l3_4, l3_5, l3_8, l3_9, l3_10, l3_12, l3_13, l3_14, l3_18, l3_19, l3_20, l3_24, l3_31, l3_32, l3_33, l3_45, l3_47, l3_48, l3_57, l3_58, l3_59, l3_63, l3_94, l3_97, l3_120, l3_122, l3_180, l3_200, l3_255, l3_320, l3_400, z3a, z3s, z3m, z3n, z3le, z3lt, z3eq, z3nat, z364, if_neg, xOfz, Option.bind_some, e1]
      · try dsimp only
        by_cases w : k = j
        · subst w
          exact ⟨if_pos rfl, if_pos rfl⟩
        · have : plz C X k ≠ plz C X j := fun e => w (plz_i hi k0 (by omega) p1 hj e)
          have g := plz_ge C X k
          have q := p2 k k0 (by omega)
          exact ⟨(if_neg (by omega)).trans q.1, (if_neg (by omega)).trans q.2⟩)
    (fun n a hp => by
      simp (disch := omega) only [lX0_sort_2, mX3_size, l3_0, l3_1, l3_2, l3_3, l3_4, l3_5, l3_8, l3_9, l3_10, l3_12, l3_13, l3_14, l3_18, l3_19, l3_20, l3_24, l3_31, l3_32, l3_33, l3_45, l3_47, l3_48, l3_57, l3_58, l3_59, l3_63, l3_94, l3_97, l3_120, l3_122, l3_180, l3_200, l3_255, l3_320, l3_400, z3a, z3s, z3m, z3n, z3le, z3lt, z3eq, z3nat, z364, if_pos, Option.bind_some])
    C.toNat FU 0 (o, so) (by omega) (fuel (by omega)) ⟨by omega, fun k _ _ => by omega⟩
  obtain ⟨H1, -, H2⟩ := H
  dsimp only at H1 H2
  generalize itz _ _ _ _ = r at H1 H2
  refine ⟨r.1, r.2, ?_, fun p h1 h2 => ?_, fun p h1 h2 => ?_⟩
  · unfold mX0_sort
    rw [l3_0, H1]
    rfl
  · obtain ⟨a, b, c⟩ := ivz_s hi h1 h2
    have := (H2 _ a b).1
    rwa [c, show p.toNat = (0 + p).toNat by omega] at this
  · obtain ⟨a, b, c⟩ := ivz_s hi h1 h2
    have := (H2 _ a b).2
    rwa [c, show p.toNat = (0 + p).toNat by omega] at this
theorem pair3_in {so : Nat → Int32} (h5 : C ≤ 5) (hx : En 0 C so X) (hr : Rz C (-9) 9 X) {k : Int} (k0 : 0 ≤ k) (k1 : k < C) (a : Int) : lX0_pairProduct_23 (z3 k) so FU (z6 a) (z3 0) = some (z6 (a * pdz (fun j => X k - X j) k.toNat 0)) := by
  have H := runz (fun n j (a : Int) => lX0_pairProduct_23 (z3 k) so n (z6 a) (z3 j)) (fun j a => a * (X k - X j)) (fun j a => 0 ≤ j) k z6
    (fun n j a hj hp => by
      have hp : 0 ≤ j := hp
      have e1 := hx.z (k := j) (by omega) (by omega)
      have e2 := hx.z (k := k) (by omega) (by omega)
      have r1 := hr j (by omega) (by omega)
      have r2 := hr k (by omega) (by omega)
      refine ⟨?_, by omega⟩
      simp (disch := omega) only [lX0_pairProduct_23, l3_0, l3_1, l3_2, l3_3, l3_4, l3_5, l3_8, l3_9, l3_10, l3_12, l3_13, l3_14, l3_18, l3_19, l3_20, l3_24, l3_31, l3_32, l3_33, l3_45, l3_47, l3_48, l3_57, l3_58, l3_59, l3_63, l3_94, l3_97, l3_120, l3_122, l3_180, l3_200, l3_255, l3_320, l3_400, z3a, z3s, z3m, z3n, z3le, z3lt, z3eq, z3nat, z364, z6m, if_neg, e1, e2])
    (fun n a hp => by
      simp (disch := omega) only [lX0_pairProduct_23, l3_0, l3_1, l3_2, l3_3, l3_4, l3_5, l3_8, l3_9, l3_10, l3_12, l3_13, l3_14, l3_18, l3_19, l3_20, l3_24, l3_31, l3_32, l3_33, l3_45, l3_47, l3_48, l3_57, l3_58, l3_59, l3_63, l3_94, l3_97, l3_120, l3_122, l3_180, l3_200, l3_255, l3_320, l3_400, z3a, z3s, z3m, z3n, z3le, z3lt, z3eq, z3nat, z364, if_pos])
    k.toNat FU 0 a (by omega) (fuel (by omega)) (by omega)
  rw [itz_p] at H
  exact H.1
theorem pair3 {so : Nat → Int32} (h0 : 0 ≤ C) (h5 : C ≤ 5) (hi : Inj C X) (hr : Rz C (-9) 9 X) (hx : En 0 C so (fun p => X (ivz C X p))) : mX0_pairProduct (z3 C) so = some (z6 (spz X 0 C)) := by
  have hr' : Rz C (-9) 9 (fun p => X (ivz C X p)) := fun k a b => hr _ (ivz_s hi a b).1 (ivz_s hi a b).2.1
  have H := runz (fun n j (a : Int) => lX0_pairProduct_4 (z3 C) so n (z6 a) (z3 j)) (fun k a => a * pdz (fun j => X (ivz C X k) - X (ivz C X j)) k.toNat 0) (fun j a => 1 ≤ j) (max C 1) z6
    (fun n j a hj hp => by
      refine ⟨?_, by omega⟩
      have hp : 1 ≤ j := hp
      have := pair3_in h5 hx hr' (k := j) (by omega) (by omega) a
      simp (disch := omega) only [lX0_pairProduct_4, mX3_size, l3_0, l3_1, l3_2, l3_3, l3_4, l3_5, l3_8, l3_9, l3_10, l3_12, l3_13, l3_14, l3_18, l3_19, l3_20, l3_24, l3_31, l3_32, l3_33, l3_45, l3_47, l3_48, l3_57, l3_58, l3_59, l3_63, l3_94, l3_97, l3_120, l3_122, l3_180, l3_200, l3_255, l3_320, l3_400, z3a, z3s, z3m, z3n, z3le, z3lt, z3eq, z3nat, z364, if_neg, this, Option.bind_some])
    (fun n a hp => by
      simp (disch := omega) only [lX0_pairProduct_4, mX3_size, l3_0, l3_1, l3_2, l3_3, l3_4, l3_5, l3_8, l3_9, l3_10, l3_12, l3_13, l3_14, l3_18, l3_19, l3_20, l3_24, l3_31, l3_32, l3_33, l3_45, l3_47, l3_48, l3_57, l3_58, l3_59, l3_63, l3_94, l3_97, l3_120, l3_122, l3_180, l3_200, l3_255, l3_320, l3_400, z3a, z3s, z3m, z3n, z3le, z3lt, z3eq, z3nat, z364, if_pos, Option.bind_some])
    (max C 1 - 1).toNat FU 1 1 (by omega) (fuel (by omega)) (by omega)
  rw [itz_p, Int.one_mul] at H
  have e : pdz (fun k => pdz (fun j => X (ivz C X k) - X (ivz C X j)) k.toNat 0) (max C 1 - 1).toNat 1 = spz X 0 C := by
    rw [spz_0, ← vdz_iv hi]
    unfold vdz
    have : ∀ m : Nat, (m : Int) ≤ C → pdz (fun k => pdz (fun j => (((X (ivz C X k)) - (X (ivz C X j))).natAbs : Int)) k.toNat 0) m 0 = pdz (fun k => pdz (fun j => X (ivz C X k) - X (ivz C X j)) k.toNat 0) m 0 := by
      intro m hm
      apply pdz_c
      intro k h1 h2
      apply pdz_c
      intro j h3 h4
      have := ivz_lt hi (p := j) (q := k) (by omega) (by omega) (by omega)
      try dsimp only
      omega
    rw [this C.toNat (by omega)]
    by_cases w : C = 0
    · subst w
      rfl
    · rw [show C.toNat = (C.toNat - 1) + 1 by omega, show (max C 1 - 1).toNat = C.toNat - 1 by omega]
      show _ = 1 * pdz _ _ _
      rw [Int.one_mul]
      rfl
  rw [e] at H
  unfold mX0_pairProduct
  rw [l6_1, l3_1, H.1]
  rfl
end SPN
