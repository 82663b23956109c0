/-! Edits: mirror, shift, undo. -/
theorem s2c {C : Int} {s : Nat → Int32} (hs2 : s 2 = z3 C) : ¬ ((2 : Int32) < 0 ∨ 18 ≤ Int32.toNatClampNeg 2) ∧ s (Int32.toNatClampNeg 2) = z3 C := ⟨by decide, hs2⟩
section MAP
variable {C : Int} {X : Int → Int} {xs s : Nat → Int32}
end MAP