/-! Step 27, plainValue. -/
section PLN
variable {C k x d : Int} {X Y W : Int → Int} {s : Nat → Int32}
theorem qqz_b2 (h0 : 0 ≤ C) (h5 : C ≤ 5) (hr : Rz C (-9) 9 X) (hi : Inj C X) (k0 : 0 ≤ k) (k1 : k < C) : (qqz X 0 C k).natAbs ≤ 6377292000 := by
  have h := blz_b2 (w := C - 1) h0 h5 hr hi k0 k1 (by omega) (by omega)
  have e := raw_0 hi 0 (fun _ => 0) k0 k1
  have e2 : rwz C 0 0 X (fun _ => 0) k = blz C X (C - 1) k := by
    unfold rwz
    rw [if_neg (by decide), if_pos rfl]
  rw [← e, e2]
  exact h
/-- the numerator of the plain value -/
def plS (C : Int) (X Y : Int → Int) (x : Int) : Int := smz (fun k => Y k * qqz X 0 C k * woz X k x C.toNat) C.toNat 0
theorem plS_b (h0 : 0 ≤ C) (h5 : C ≤ 5) (hr : Rz C (-9) 9 X) (hry : Rz C (-20) 20 Y) (hi : Inj C X) (x0 : -12 ≤ x) (x1 : x ≤ 12) : (plS C X Y x).natAbs ≤ 124026212545200000 := by
  have a := smz_b (f := fun k => Y k * qqz X 0 C k * woz X k x C.toNat) (B := 24805242509040000) C.toNat 0 (fun i i0 i1 => by
    have r := hry i (by omega) (by omega)
    exact natAbs_mul_le (natAbs_mul_le (A := 20) (B := 6377292000) (by omega) (qqz_b2 h0 h5 hr hi i0 (by omega))) (woz_b h0 h5 hr i0 (by omega) x0 x1))
  have : C.toNat * 24805242509040000 ≤ 5 * 24805242509040000 := Nat.mul_le_mul_right _ (by omega)
  unfold plS
  omega
theorem plN (c1 : 1 ≤ C) (h5 : C ≤ 5) (hi : Inj C X) : nmv C X Y (wtz C 0 d X W) x 1 * gwz C 0 d X W C = spz X 0 C ∧ nmv C X Y (wtz C 0 d X W) x 0 * gwz C 0 d X W C = plS C X Y x := by
  have m : ∀ k, 0 ≤ k → k < C → wtz C 0 d X W k * gwz C 0 d X W C = qqz X 0 C k := fun k k0 k1 => by rw [wtz_m k0 k1, raw_0 hi d W k0 k1]
  constructor
  · rw [← lagr c1 h5 hi (T := qqz X 0 C) (fun k k0 k1 => ozz_s hi k0 k1) x, Int.mul_comm]
    unfold nmv
    rw [Tz1]
    unfold plv
    rw [← smz_m]
    refine smz_c _ _ (fun k k0 k1 => ?_)
    rw [← m k k0 (by omega)]
    grind
  · rw [Int.mul_comm]
    unfold nmv
    rw [Tz0]
    unfold plv plS
    rw [← smz_m]
    refine smz_c _ _ (fun k k0 k1 => ?_)
    rw [← m k k0 (by omega)]
    grind
theorem plV (c1 : 1 ≤ C) (h5 : C ≤ 5) (hi : Inj C X) : kiz C X Y (wtz C 0 d X W) x = 0 ∧ vT C X Y (wtz C 0 d X W) x = rdT (plS C X Y x) (spz X 0 C) ∧ vB C X Y (wtz C 0 d X W) x = rdB (plS C X Y x) (spz X 0 C) := by
  obtain ⟨e1, e2⟩ := plN (X := X) (Y := Y) (d := d) (W := W) (x := x) c1 h5 hi
  have s0 : spz X 0 C ≠ 0 := spz_n0 (f := 0) (b := C) (C := C) (by omega) (by omega) (by omega) hi
  have n0 : nmv C X Y (wtz C 0 d X W) x 1 ≠ 0 := fun w => s0 (by rw [← e1, w, Int.zero_mul])
  refine ⟨?_, ?_⟩
  · unfold kiz knz
    rw [if_neg n0]
  · unfold vT vB
    rw [if_neg n0, if_neg n0]
    exact rd_u n0 s0 (by rw [← e1, ← e2]; grind)
end PLN