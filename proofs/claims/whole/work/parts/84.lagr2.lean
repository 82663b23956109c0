/-! Weights against a polynomial: the denominator and its slope. -/
theorem evz_z {q : Int → Int} (h : ∀ x, evz q x = 0) : q 0 = 0 ∧ q 1 = 0 ∧ q 2 = 0 ∧ q 3 = 0 ∧ q 4 = 0 := by
  have a := h 0
  have b := h 1
  have c := h (-1)
  have d := h 2
  have e := h (-2)
  unfold evz at a b c d e
  omega
section LG2
variable {C : Int} {X T r : Int → Int}
theorem lagrR (c1 : 1 ≤ C) (h5 : C ≤ 5) (hi : Inj C X) (hr : ∀ p, C ≤ p → p ≤ 4 → r p = 0) (hT : ∀ k, 0 ≤ k → k < C → T k * ozz C X k = evz r (X k)) (x : Int) : plv X T C.toNat C.toNat x = evz r x ∧ dlv X T C.toNat C.toNat x = dvz r x := by
  have lin : ∀ (u v : Int → Int) (y : Int), evz (fun p => u p - v p) y = evz u y - evz v y ∧ dvz (fun p => u p - v p) y = dvz u y - dvz v y := fun u v y => by
    unfold evz dvz
    grind
  have ev : ∀ y, evz (fun p => cfz X T C.toNat C.toNat p - r p) y = plv X T C.toNat C.toNat y - evz r y := fun y => by
    rw [(lin _ _ y).1, (cfz_v X T C.toNat y (by omega) C.toNat (by omega)).1]
  have z : ∀ y, evz (fun p => cfz X T C.toNat C.toNat p - r p) y = 0 := evz_0 (C.toNat - 1) (fun p => cfz X T C.toNat C.toNat p - r p) (fun i => X i) (by omega) (fun p p0 p1 => by
    have c0 : cfz X T C.toNat C.toNat p = 0 := by
      unfold cfz
      rw [smz_c (g := fun _ => 0) _ _ (fun k k0 k1 => by
        rw [prt_0 X k C.toNat p (by rw [if_pos (by omega)]; omega), Int.mul_zero]), smz_k, Int.mul_zero]
    show cfz X T C.toNat C.toNat p - r p = 0
    rw [c0, hr p (by omega) p1]
    rfl) (fun i i0 => by
    show evz (fun p => cfz X T C.toNat C.toNat p - r p) (X i) = 0
    rw [ev]
    unfold plv
    rw [smz_1 (i := (i : Int)) C.toNat 0 (by omega) (by omega) (fun k k0 k1 k2 => by
      have : woz X k (X i) C.toNat = 0 := pdz_z (i := (i : Int)) _ _ (by omega) (by omega) (by
        rw [if_neg (fun w => k2 w.symm)]
        omega)
      rw [this, Int.mul_zero])]
    show T i * ozz C X i - evz r (X i) = 0
    rw [hT i (by omega) (by omega)]
    omega) (fun i j i0 j0 e => by
    have := hi i j (by omega) (by omega) (by omega) (by omega) e
    omega)
  obtain ⟨q0, q1, q2, q3, q4⟩ := evz_z z
  refine ⟨?_, ?_⟩
  · have := z x
    rw [ev] at this
    omega
  · have d0 : dvz (fun p => cfz X T C.toNat C.toNat p - r p) x = 0 := by
      unfold dvz
      dsimp only at q0 q1 q2 q3 q4 ⊢
      rw [q1, q2, q3, q4]
      grind
    rw [(lin _ _ x).2, (cfz_v X T C.toNat x (by omega) C.toNat (by omega)).2] at d0
    omega
end LG2
