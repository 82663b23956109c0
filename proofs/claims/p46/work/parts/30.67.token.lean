/-! A token: both readers see the same. -/
section TKP
variable {len : Int} {f g : Nat → Int32} {p t st nx v : Int}
end TKP
theorem z3m1n {b : Int} (h0 : 0 ≤ b) (h1 : b < 256) : ¬ z3 b = -1 := fun w => by
  have := (z3eq (by omega) (by omega) (by omega) (by omega)).1 (Eq.trans w (show (-1 : Int32) = z3 (-1) from rfl))
  omega
theorem vnz_b {bv : Int → Int} {q : Int} {m : Nat} (m1 : 1 ≤ m) (m2 : m ≤ 2) (h : ∀ i, q ≤ i → i < q + m → dgt (bv i)) : 0 ≤ vnz bv q m ∧ vnz bv q m ≤ 99 := by
  have c : m = 1 ∨ m = 2 := by omega
  have h0 := h q (by omega) (by omega)
  unfold dgt at h0
  rcases c with rfl | rfl
  · show 0 ≤ bv q - 48 ∧ bv q - 48 ≤ 99
    omega
  · have h2 := h (q + 1) (by omega) (by omega)
    unfold dgt at h2
    show 0 ≤ 10 * (bv q - 48) + bv (q + 1) - 48 ∧ 10 * (bv q - 48) + bv (q + 1) - 48 ≤ 99
    omega
theorem l3_59z : (59 : Int32) = z3 59 := rfl