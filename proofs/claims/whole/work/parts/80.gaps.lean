/-! The weights of five points in order, by their gaps: sums and the product over the greatest common divisor. A computed check. -/
def gpV (a b c d : Nat) : Nat := (a + 1) * (b + 1) * (c + 1) * (d + 1) * (a + b + 2) * (b + c + 2) * (c + d + 2) * (a + b + c + 3) * (b + c + d + 3) * (a + b + c + d + 4)
/-- the weights without their sign, of the windows of five, three, two -/
def gp4 (a b c d : Nat) : List Nat := [(b + 1) * (c + 1) * (d + 1) * (b + c + 2) * (c + d + 2) * (b + c + d + 3), (c + 1) * (d + 1) * (a + b + 2) * (c + d + 2) * (a + b + c + 3) * (a + b + c + d + 4), (a + 1) * (d + 1) * (b + c + 2) * (a + b + c + 3) * (b + c + d + 3) * (a + b + c + d + 4), (a + 1) * (b + 1) * (a + b + 2) * (c + d + 2) * (b + c + d + 3) * (a + b + c + d + 4), (a + 1) * (b + 1) * (c + 1) * (a + b + 2) * (b + c + 2) * (a + b + c + 3)]
def gp2 (a b c d : Nat) : List Nat := [gpV a b c d / ((a + 1) * (a + b + 2)), gpV a b c d / ((a + 1) * (b + 1)) + gpV a b c d / ((b + 1) * (b + c + 2)), gpV a b c d / ((a + b + 2) * (b + 1)) + gpV a b c d / ((b + 1) * (c + 1)) + gpV a b c d / ((c + 1) * (c + d + 2)), gpV a b c d / ((b + c + 2) * (c + 1)) + gpV a b c d / ((c + 1) * (d + 1)), gpV a b c d / ((c + d + 2) * (d + 1))]
def gp1 (a b c d : Nat) : List Nat := [gpV a b c d / (a + 1), gpV a b c d / (a + 1) + gpV a b c d / (b + 1), gpV a b c d / (b + 1) + gpV a b c d / (c + 1), gpV a b c d / (c + 1) + gpV a b c d / (d + 1), gpV a b c d / (d + 1)]
def lsum : List Nat → Nat | [] => 0 | x :: l => x + lsum l
def lgcd : List Nat → Nat | [] => 0 | x :: l => Nat.gcd x (lgcd l)
def gck (s v : Nat) (l : List Nat) (V : Nat) : Bool := Nat.ble (lsum l) (s * lgcd l) && Nat.ble V (v * lgcd l)
set_option maxRecDepth 100000 in
theorem gap4w : ∀ a, a < 15 → ∀ b, b < 15 - a → ∀ c, c < 15 - a - b → ∀ d, d < 15 - a - b - c → gck 87750 24504480 (gp4 a b c d) (gpV a b c d) = true := by decide +kernel
set_option maxRecDepth 100000 in
theorem gap2w : ∀ a, a < 15 → ∀ b, b < 15 - a → ∀ c, c < 15 - a - b → ∀ d, d < 15 - a - b - c → gck 26026 60060 (gp2 a b c d) (gpV a b c d) = true := by decide +kernel
set_option maxRecDepth 100000 in
theorem gap1w : ∀ a, a < 15 → ∀ b, b < 15 - a → ∀ c, c < 15 - a - b → ∀ d, d < 15 - a - b - c → gck 494 1275458400 (gp1 a b c d) (gpV a b c d) = true := by decide +kernel
