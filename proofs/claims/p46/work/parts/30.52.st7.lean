/-! isAlternating. -/
section ALT
variable {C : Int} {hh : Int → Int}
/-- where the signs do not alternate -/
def badz (hh : Int → Int) (p : Int) : Prop := hh p = 0 ∨ (0 < p ∧ ((0 < hh p) ↔ (0 < hh (p - 1))))
end ALT