/-! The polynomials of the reference. -/
def Tz (fl : Int32) (wt Y : Int → Int) (k : Int) : Int := if fl = 0 then wt k * Y k else wt k
section PL7
variable {C : Int} {X Y wt : Int → Int} {s : Nat → Int32} {w : Nat → Int64}
end PL7
