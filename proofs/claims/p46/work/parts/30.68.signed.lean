/-! Words and numbers of a text. -/
def fkd (t : Int) : Int := if t = 1 then 1 else if t = 3 then 3 else 2
theorem cc3 : z3 (ctk 3) = 2 := rfl
theorem cc5 : z3 (ctk 5) = 3 := rfl
theorem cc2 : z3 (ctk 2) = 1 := rfl
theorem ct3 : z3 3 = 3 := rfl
theorem ct2 : z3 2 = 2 := rfl
theorem ct5 : z3 5 = 5 := rfl
section SGN
variable {len : Int} {f g : Nat → Int32} {p t st nx v : Int}
end SGN
