/-! Steps that only read: isAlternating, many, hiddenPoles, nextPole, written. -/
theorem q12lt {j : Int} (h0 : -100 ≤ j) (h : j ≤ 12) : ¬ (12 : Int32) < z3 j := by
  rw [l3_12, z3lt (by omega) (by omega) (by omega) (by omega)]
  omega
theorem q12le {j : Int} (h0 : -100 ≤ j) (h : j < 12) : ¬ (12 : Int32) ≤ z3 j := by
  rw [l3_12, z3le (by omega) (by omega) (by omega) (by omega)]
  omega
theorem q12le' {j : Int} (h : 12 ≤ j) (h1 : j ≤ 100) : (12 : Int32) ≤ z3 j := by
  rw [l3_12, z3le (by omega) (by omega) (by omega) (by omega)]
  omega
def hidz (C : Int) (X Y wt : Int → Int) (x : Int) : Prop := (0 < nmv C X Y wt x 1 ∧ nmv C X Y wt (x + 1) 1 < 0) ∨ (nmv C X Y wt x 1 < 0 ∧ 0 < nmv C X Y wt (x + 1) 1)
section HID
variable {C x : Int} {X Y wt : Int → Int} {fd fn : Nat → Int64} {s : Nat → Int32} {w : Nat → Int64}
theorem hid3 (h0 : 0 ≤ C) (h5 : C ≤ 5) (hr : Rz C (-9) 9 X) (hry : Rz C (-20) 20 Y) (hb : Bw C wt) (hc : Crv C X Y wt fd fn) (x0 : -12 ≤ x) (x1 : x < 12) : (hidz C X Y wt x → mX0_hidesPoleBehind fd fn (z3 x) = some 1) ∧ (¬ hidz C X Y wt x → mX0_hidesPoleBehind fd fn (z3 x) = some 0) := by
  have b0 := nmv_b h0 h5 hr hry hb x0 (show x ≤ 12 by omega) 1
  have b1 := nmv_b (x := x + 1) h0 h5 hr hry hb (by omega) (by omega) 1
  unfold mX0_hidesPoleBehind hidz
  rw [l3_1, z3a, ← l3_1, atD h0 h5 hc (by omega) (by omega), atD h0 h5 hc (by omega) (by omega), Option.bind_some, Option.bind_some]
  generalize nmv C X Y wt x 1 = p at b0 ⊢
  generalize nmv C X Y wt (x + 1) 1 = q at b1 ⊢
  rcases Int.lt_trichotomy 0 p with h | h | h <;> rcases Int.lt_trichotomy 0 q with g | g | g <;> refine ⟨fun w => ?_, fun w => ?_⟩ <;> first | (exfalso; omega) | (simp (disch := omega) only [l6_0, z6eq, z6le, if_pos, if_neg]; done) | (simp (disch := omega) only [l6_0, z6eq, z6le, if_pos, if_neg]; rfl)
end HID
/-- the first pole from some one on -/
def polz (C : Int) (X Y wt : Int → Int) (j : Int) : Prop := kiz C X Y wt j = 2 ∨ (j < 12 ∧ hidz C X Y wt j)
def fpz (C : Int) (X Y wt : Int → Int) (f r : Int) : Prop := f ≤ r ∧ r ≤ 12 ∧ polz C X Y wt r ∧ ∀ j, f ≤ j → j < r → ¬ polz C X Y wt j
def npz (C : Int) (X Y wt : Int → Int) (f : Int) : Prop := ∀ j, f ≤ j → j ≤ 12 → ¬ polz C X Y wt j
theorem fpz_u {C : Int} {X Y wt : Int → Int} {f r r' : Int} (h : fpz C X Y wt f r) (h' : fpz C X Y wt f r') : r = r' := by
  rcases Int.lt_trichotomy r r' with w | w | w
  · exact absurd h.2.2.1 (h'.2.2.2 r h.1 w)
  · exact w
  · exact absurd h'.2.2.1 (h.2.2.2 r' h'.1 w)