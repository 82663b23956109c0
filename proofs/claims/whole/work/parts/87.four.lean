/-! Four points: the same. -/
def gqV (a b c : Nat) : Nat := (a + 1) * (b + 1) * (c + 1) * (a + b + 2) * (b + c + 2) * (a + b + c + 3)
def gr3_0 (V d01 d02 d03 d12 d13 d23 : Nat) : Nat := V / (d01 * d02 * d03)
def gr3_1 (V d01 d02 d03 d12 d13 d23 : Nat) : Nat := V / (d01 * d12 * d13)
def gr3_2 (V d01 d02 d03 d12 d13 d23 : Nat) : Nat := V / (d02 * d12 * d23)
def gr3_3 (V d01 d02 d03 d12 d13 d23 : Nat) : Nat := V / (d03 * d13 * d23)
def gr3 (V d01 d02 d03 d12 d13 d23 : Nat) : List Nat := [gr3_0 V d01 d02 d03 d12 d13 d23, gr3_1 V d01 d02 d03 d12 d13 d23, gr3_2 V d01 d02 d03 d12 d13 d23, gr3_3 V d01 d02 d03 d12 d13 d23]
def gr2_0 (V d01 d02 d03 d12 d13 d23 : Nat) : Nat := V / (d01 * d02)
def gr2_1 (V d01 d02 d03 d12 d13 d23 : Nat) : Nat := V / (d01 * d12) + V / (d12 * d13)
def gr2_2 (V d01 d02 d03 d12 d13 d23 : Nat) : Nat := V / (d02 * d12) + V / (d12 * d23)
def gr2_3 (V d01 d02 d03 d12 d13 d23 : Nat) : Nat := V / (d13 * d23)
def gr2 (V d01 d02 d03 d12 d13 d23 : Nat) : List Nat := [gr2_0 V d01 d02 d03 d12 d13 d23, gr2_1 V d01 d02 d03 d12 d13 d23, gr2_2 V d01 d02 d03 d12 d13 d23, gr2_3 V d01 d02 d03 d12 d13 d23]
def gr1_0 (V d01 d02 d03 d12 d13 d23 : Nat) : Nat := V / (d01)
def gr1_1 (V d01 d02 d03 d12 d13 d23 : Nat) : Nat := V / (d01) + V / (d12)
def gr1_2 (V d01 d02 d03 d12 d13 d23 : Nat) : Nat := V / (d12) + V / (d23)
def gr1_3 (V d01 d02 d03 d12 d13 d23 : Nat) : Nat := V / (d23)
def gr1 (V d01 d02 d03 d12 d13 d23 : Nat) : List Nat := [gr1_0 V d01 d02 d03 d12 d13 d23, gr1_1 V d01 d02 d03 d12 d13 d23, gr1_2 V d01 d02 d03 d12 d13 d23, gr1_3 V d01 d02 d03 d12 d13 d23]
set_option maxRecDepth 100000 in
theorem grc3 : ∀ a, a < 16 → ∀ b, b < 16 - a → ∀ c, c < 16 - a - b → gck 1496 10000000 (gr3 (gqV a b c) (a + 1) (a + b + 2) (a + b + c + 3) (b + 1) (b + c + 2) (c + 1)) (gqV a b c) = true := by decide +kernel
set_option maxRecDepth 100000 in
theorem grc2 : ∀ a, a < 16 → ∀ b, b < 16 - a → ∀ c, c < 16 - a - b → gck 1496 10000000 (gr2 (gqV a b c) (a + 1) (a + b + 2) (a + b + c + 3) (b + 1) (b + c + 2) (c + 1)) (gqV a b c) = true := by decide +kernel
set_option maxRecDepth 100000 in
theorem grc1 : ∀ a, a < 16 → ∀ b, b < 16 - a → ∀ c, c < 16 - a - b → gck 214 10000000 (gr1 (gqV a b c) (a + 1) (a + b + 2) (a + b + c + 3) (b + 1) (b + c + 2) (c + 1)) (gqV a b c) = true := by decide +kernel
section RZ4
variable {Z : Int → Int} {V d01 d02 d03 d12 d13 d23 : Nat}
theorem ry3_0 (h01 : Z 1 - Z 0 = (d01 : Int)) (g01 : Z 0 - Z 1 = -(d01 : Int)) (h02 : Z 2 - Z 0 = (d02 : Int)) (g02 : Z 0 - Z 2 = -(d02 : Int)) (h03 : Z 3 - Z 0 = (d03 : Int)) (g03 : Z 0 - Z 3 = -(d03 : Int)) (h12 : Z 2 - Z 1 = (d12 : Int)) (g12 : Z 1 - Z 2 = -(d12 : Int)) (h13 : Z 3 - Z 1 = (d13 : Int)) (g13 : Z 1 - Z 3 = -(d13 : Int)) (h23 : Z 3 - Z 2 = (d23 : Int)) (g23 : Z 2 - Z 3 = -(d23 : Int)) : rzz 4 Z V 3 0 = -(gr3_0 V d01 d02 d03 d12 d13 d23 : Int) := by
  have e : rzz 4 Z V 3 0 = (V : Int).tdiv (1 * ((Z 0 - Z 1) * ((Z 0 - Z 2) * ((Z 0 - Z 3) * 1)))) + (0) := rfl
  have t0 : (V : Int).tdiv (1 * ((Z 0 - Z 1) * ((Z 0 - Z 2) * ((Z 0 - Z 3) * 1)))) = -((V / (d01 * d02 * d03) : Nat) : Int) := tdn (by
    rw [g01, g02, g03]
    try simp only [Int.natCast_mul]
    grind)
  rw [e, t0]
  unfold gr3_0
  omega
theorem ry3_1 (h01 : Z 1 - Z 0 = (d01 : Int)) (g01 : Z 0 - Z 1 = -(d01 : Int)) (h02 : Z 2 - Z 0 = (d02 : Int)) (g02 : Z 0 - Z 2 = -(d02 : Int)) (h03 : Z 3 - Z 0 = (d03 : Int)) (g03 : Z 0 - Z 3 = -(d03 : Int)) (h12 : Z 2 - Z 1 = (d12 : Int)) (g12 : Z 1 - Z 2 = -(d12 : Int)) (h13 : Z 3 - Z 1 = (d13 : Int)) (g13 : Z 1 - Z 3 = -(d13 : Int)) (h23 : Z 3 - Z 2 = (d23 : Int)) (g23 : Z 2 - Z 3 = -(d23 : Int)) : rzz 4 Z V 3 1 = (gr3_1 V d01 d02 d03 d12 d13 d23 : Int) := by
  have e : rzz 4 Z V 3 1 = (V : Int).tdiv ((Z 1 - Z 0) * (1 * ((Z 1 - Z 2) * ((Z 1 - Z 3) * 1)))) + (0) := rfl
  have t0 : (V : Int).tdiv ((Z 1 - Z 0) * (1 * ((Z 1 - Z 2) * ((Z 1 - Z 3) * 1)))) = ((V / (d01 * d12 * d13) : Nat) : Int) := tdp (by
    rw [h01, g12, g13]
    try simp only [Int.natCast_mul]
    grind)
  rw [e, t0]
  unfold gr3_1
  omega
theorem ry3_2 (h01 : Z 1 - Z 0 = (d01 : Int)) (g01 : Z 0 - Z 1 = -(d01 : Int)) (h02 : Z 2 - Z 0 = (d02 : Int)) (g02 : Z 0 - Z 2 = -(d02 : Int)) (h03 : Z 3 - Z 0 = (d03 : Int)) (g03 : Z 0 - Z 3 = -(d03 : Int)) (h12 : Z 2 - Z 1 = (d12 : Int)) (g12 : Z 1 - Z 2 = -(d12 : Int)) (h13 : Z 3 - Z 1 = (d13 : Int)) (g13 : Z 1 - Z 3 = -(d13 : Int)) (h23 : Z 3 - Z 2 = (d23 : Int)) (g23 : Z 2 - Z 3 = -(d23 : Int)) : rzz 4 Z V 3 2 = -(gr3_2 V d01 d02 d03 d12 d13 d23 : Int) := by
  have e : rzz 4 Z V 3 2 = (V : Int).tdiv ((Z 2 - Z 0) * ((Z 2 - Z 1) * (1 * ((Z 2 - Z 3) * 1)))) + (0) := rfl
  have t0 : (V : Int).tdiv ((Z 2 - Z 0) * ((Z 2 - Z 1) * (1 * ((Z 2 - Z 3) * 1)))) = -((V / (d02 * d12 * d23) : Nat) : Int) := tdn (by
    rw [h02, h12, g23]
    try simp only [Int.natCast_mul]
    grind)
  rw [e, t0]
  unfold gr3_2
  omega
theorem ry3_3 (h01 : Z 1 - Z 0 = (d01 : Int)) (g01 : Z 0 - Z 1 = -(d01 : Int)) (h02 : Z 2 - Z 0 = (d02 : Int)) (g02 : Z 0 - Z 2 = -(d02 : Int)) (h03 : Z 3 - Z 0 = (d03 : Int)) (g03 : Z 0 - Z 3 = -(d03 : Int)) (h12 : Z 2 - Z 1 = (d12 : Int)) (g12 : Z 1 - Z 2 = -(d12 : Int)) (h13 : Z 3 - Z 1 = (d13 : Int)) (g13 : Z 1 - Z 3 = -(d13 : Int)) (h23 : Z 3 - Z 2 = (d23 : Int)) (g23 : Z 2 - Z 3 = -(d23 : Int)) : rzz 4 Z V 3 3 = (gr3_3 V d01 d02 d03 d12 d13 d23 : Int) := by
  have e : rzz 4 Z V 3 3 = (V : Int).tdiv ((Z 3 - Z 0) * ((Z 3 - Z 1) * ((Z 3 - Z 2) * (1 * 1)))) + (0) := rfl
  have t0 : (V : Int).tdiv ((Z 3 - Z 0) * ((Z 3 - Z 1) * ((Z 3 - Z 2) * (1 * 1)))) = ((V / (d03 * d13 * d23) : Nat) : Int) := tdp (by
    rw [h03, h13, h23]
    try simp only [Int.natCast_mul]
    grind)
  rw [e, t0]
  unfold gr3_3
  omega
theorem ry2_0 (h01 : Z 1 - Z 0 = (d01 : Int)) (g01 : Z 0 - Z 1 = -(d01 : Int)) (h02 : Z 2 - Z 0 = (d02 : Int)) (g02 : Z 0 - Z 2 = -(d02 : Int)) (h03 : Z 3 - Z 0 = (d03 : Int)) (g03 : Z 0 - Z 3 = -(d03 : Int)) (h12 : Z 2 - Z 1 = (d12 : Int)) (g12 : Z 1 - Z 2 = -(d12 : Int)) (h13 : Z 3 - Z 1 = (d13 : Int)) (g13 : Z 1 - Z 3 = -(d13 : Int)) (h23 : Z 3 - Z 2 = (d23 : Int)) (g23 : Z 2 - Z 3 = -(d23 : Int)) : rzz 4 Z V 2 0 = (gr2_0 V d01 d02 d03 d12 d13 d23 : Int) := by
  have e : rzz 4 Z V 2 0 = (V : Int).tdiv (1 * ((Z 0 - Z 1) * ((Z 0 - Z 2) * 1))) + (0) := rfl
  have t0 : (V : Int).tdiv (1 * ((Z 0 - Z 1) * ((Z 0 - Z 2) * 1))) = ((V / (d01 * d02) : Nat) : Int) := tdp (by
    rw [g01, g02]
    try simp only [Int.natCast_mul]
    grind)
  rw [e, t0]
  unfold gr2_0
  omega
theorem ry2_1 (h01 : Z 1 - Z 0 = (d01 : Int)) (g01 : Z 0 - Z 1 = -(d01 : Int)) (h02 : Z 2 - Z 0 = (d02 : Int)) (g02 : Z 0 - Z 2 = -(d02 : Int)) (h03 : Z 3 - Z 0 = (d03 : Int)) (g03 : Z 0 - Z 3 = -(d03 : Int)) (h12 : Z 2 - Z 1 = (d12 : Int)) (g12 : Z 1 - Z 2 = -(d12 : Int)) (h13 : Z 3 - Z 1 = (d13 : Int)) (g13 : Z 1 - Z 3 = -(d13 : Int)) (h23 : Z 3 - Z 2 = (d23 : Int)) (g23 : Z 2 - Z 3 = -(d23 : Int)) : rzz 4 Z V 2 1 = -(gr2_1 V d01 d02 d03 d12 d13 d23 : Int) := by
  have e : rzz 4 Z V 2 1 = (V : Int).tdiv ((Z 1 - Z 0) * (1 * ((Z 1 - Z 2) * 1))) + (-((V : Int).tdiv (1 * ((Z 1 - Z 2) * ((Z 1 - Z 3) * 1)))) + (0)) := rfl
  have t0 : (V : Int).tdiv ((Z 1 - Z 0) * (1 * ((Z 1 - Z 2) * 1))) = -((V / (d01 * d12) : Nat) : Int) := tdn (by
    rw [h01, g12]
    try simp only [Int.natCast_mul]
    grind)
  have t1 : (V : Int).tdiv (1 * ((Z 1 - Z 2) * ((Z 1 - Z 3) * 1))) = ((V / (d12 * d13) : Nat) : Int) := tdp (by
    rw [g12, g13]
    try simp only [Int.natCast_mul]
    grind)
  rw [e, t0, t1]
  unfold gr2_1
  omega
theorem ry2_2 (h01 : Z 1 - Z 0 = (d01 : Int)) (g01 : Z 0 - Z 1 = -(d01 : Int)) (h02 : Z 2 - Z 0 = (d02 : Int)) (g02 : Z 0 - Z 2 = -(d02 : Int)) (h03 : Z 3 - Z 0 = (d03 : Int)) (g03 : Z 0 - Z 3 = -(d03 : Int)) (h12 : Z 2 - Z 1 = (d12 : Int)) (g12 : Z 1 - Z 2 = -(d12 : Int)) (h13 : Z 3 - Z 1 = (d13 : Int)) (g13 : Z 1 - Z 3 = -(d13 : Int)) (h23 : Z 3 - Z 2 = (d23 : Int)) (g23 : Z 2 - Z 3 = -(d23 : Int)) : rzz 4 Z V 2 2 = (gr2_2 V d01 d02 d03 d12 d13 d23 : Int) := by
  have e : rzz 4 Z V 2 2 = (V : Int).tdiv ((Z 2 - Z 0) * ((Z 2 - Z 1) * (1 * 1))) + (-((V : Int).tdiv ((Z 2 - Z 1) * (1 * ((Z 2 - Z 3) * 1)))) + (0)) := rfl
  have t0 : (V : Int).tdiv ((Z 2 - Z 0) * ((Z 2 - Z 1) * (1 * 1))) = ((V / (d02 * d12) : Nat) : Int) := tdp (by
    rw [h02, h12]
    try simp only [Int.natCast_mul]
    grind)
  have t1 : (V : Int).tdiv ((Z 2 - Z 1) * (1 * ((Z 2 - Z 3) * 1))) = -((V / (d12 * d23) : Nat) : Int) := tdn (by
    rw [h12, g23]
    try simp only [Int.natCast_mul]
    grind)
  rw [e, t0, t1]
  unfold gr2_2
  omega
theorem ry2_3 (h01 : Z 1 - Z 0 = (d01 : Int)) (g01 : Z 0 - Z 1 = -(d01 : Int)) (h02 : Z 2 - Z 0 = (d02 : Int)) (g02 : Z 0 - Z 2 = -(d02 : Int)) (h03 : Z 3 - Z 0 = (d03 : Int)) (g03 : Z 0 - Z 3 = -(d03 : Int)) (h12 : Z 2 - Z 1 = (d12 : Int)) (g12 : Z 1 - Z 2 = -(d12 : Int)) (h13 : Z 3 - Z 1 = (d13 : Int)) (g13 : Z 1 - Z 3 = -(d13 : Int)) (h23 : Z 3 - Z 2 = (d23 : Int)) (g23 : Z 2 - Z 3 = -(d23 : Int)) : rzz 4 Z V 2 3 = -(gr2_3 V d01 d02 d03 d12 d13 d23 : Int) := by
  have e : rzz 4 Z V 2 3 = -((V : Int).tdiv ((Z 3 - Z 1) * ((Z 3 - Z 2) * (1 * 1)))) + (0) := rfl
  have t0 : (V : Int).tdiv ((Z 3 - Z 1) * ((Z 3 - Z 2) * (1 * 1))) = ((V / (d13 * d23) : Nat) : Int) := tdp (by
    rw [h13, h23]
    try simp only [Int.natCast_mul]
    grind)
  rw [e, t0]
  unfold gr2_3
  omega
theorem ry1_0 (h01 : Z 1 - Z 0 = (d01 : Int)) (g01 : Z 0 - Z 1 = -(d01 : Int)) (h02 : Z 2 - Z 0 = (d02 : Int)) (g02 : Z 0 - Z 2 = -(d02 : Int)) (h03 : Z 3 - Z 0 = (d03 : Int)) (g03 : Z 0 - Z 3 = -(d03 : Int)) (h12 : Z 2 - Z 1 = (d12 : Int)) (g12 : Z 1 - Z 2 = -(d12 : Int)) (h13 : Z 3 - Z 1 = (d13 : Int)) (g13 : Z 1 - Z 3 = -(d13 : Int)) (h23 : Z 3 - Z 2 = (d23 : Int)) (g23 : Z 2 - Z 3 = -(d23 : Int)) : rzz 4 Z V 1 0 = -(gr1_0 V d01 d02 d03 d12 d13 d23 : Int) := by
  have e : rzz 4 Z V 1 0 = (V : Int).tdiv (1 * ((Z 0 - Z 1) * 1)) + (0) := rfl
  have t0 : (V : Int).tdiv (1 * ((Z 0 - Z 1) * 1)) = -((V / (d01) : Nat) : Int) := tdn (by
    rw [g01]
    try simp only [Int.natCast_mul]
    grind)
  rw [e, t0]
  unfold gr1_0
  omega
theorem ry1_1 (h01 : Z 1 - Z 0 = (d01 : Int)) (g01 : Z 0 - Z 1 = -(d01 : Int)) (h02 : Z 2 - Z 0 = (d02 : Int)) (g02 : Z 0 - Z 2 = -(d02 : Int)) (h03 : Z 3 - Z 0 = (d03 : Int)) (g03 : Z 0 - Z 3 = -(d03 : Int)) (h12 : Z 2 - Z 1 = (d12 : Int)) (g12 : Z 1 - Z 2 = -(d12 : Int)) (h13 : Z 3 - Z 1 = (d13 : Int)) (g13 : Z 1 - Z 3 = -(d13 : Int)) (h23 : Z 3 - Z 2 = (d23 : Int)) (g23 : Z 2 - Z 3 = -(d23 : Int)) : rzz 4 Z V 1 1 = (gr1_1 V d01 d02 d03 d12 d13 d23 : Int) := by
  have e : rzz 4 Z V 1 1 = (V : Int).tdiv ((Z 1 - Z 0) * (1 * 1)) + (-((V : Int).tdiv (1 * ((Z 1 - Z 2) * 1))) + (0)) := rfl
  have t0 : (V : Int).tdiv ((Z 1 - Z 0) * (1 * 1)) = ((V / (d01) : Nat) : Int) := tdp (by
    rw [h01]
    try simp only [Int.natCast_mul]
    grind)
  have t1 : (V : Int).tdiv (1 * ((Z 1 - Z 2) * 1)) = -((V / (d12) : Nat) : Int) := tdn (by
    rw [g12]
    try simp only [Int.natCast_mul]
    grind)
  rw [e, t0, t1]
  unfold gr1_1
  omega
theorem ry1_2 (h01 : Z 1 - Z 0 = (d01 : Int)) (g01 : Z 0 - Z 1 = -(d01 : Int)) (h02 : Z 2 - Z 0 = (d02 : Int)) (g02 : Z 0 - Z 2 = -(d02 : Int)) (h03 : Z 3 - Z 0 = (d03 : Int)) (g03 : Z 0 - Z 3 = -(d03 : Int)) (h12 : Z 2 - Z 1 = (d12 : Int)) (g12 : Z 1 - Z 2 = -(d12 : Int)) (h13 : Z 3 - Z 1 = (d13 : Int)) (g13 : Z 1 - Z 3 = -(d13 : Int)) (h23 : Z 3 - Z 2 = (d23 : Int)) (g23 : Z 2 - Z 3 = -(d23 : Int)) : rzz 4 Z V 1 2 = -(gr1_2 V d01 d02 d03 d12 d13 d23 : Int) := by
  have e : rzz 4 Z V 1 2 = -((V : Int).tdiv ((Z 2 - Z 1) * (1 * 1))) + ((V : Int).tdiv (1 * ((Z 2 - Z 3) * 1)) + (0)) := rfl
  have t0 : (V : Int).tdiv ((Z 2 - Z 1) * (1 * 1)) = ((V / (d12) : Nat) : Int) := tdp (by
    rw [h12]
    try simp only [Int.natCast_mul]
    grind)
  have t1 : (V : Int).tdiv (1 * ((Z 2 - Z 3) * 1)) = -((V / (d23) : Nat) : Int) := tdn (by
    rw [g23]
    try simp only [Int.natCast_mul]
    grind)
  rw [e, t0, t1]
  unfold gr1_2
  omega
theorem ry1_3 (h01 : Z 1 - Z 0 = (d01 : Int)) (g01 : Z 0 - Z 1 = -(d01 : Int)) (h02 : Z 2 - Z 0 = (d02 : Int)) (g02 : Z 0 - Z 2 = -(d02 : Int)) (h03 : Z 3 - Z 0 = (d03 : Int)) (g03 : Z 0 - Z 3 = -(d03 : Int)) (h12 : Z 2 - Z 1 = (d12 : Int)) (g12 : Z 1 - Z 2 = -(d12 : Int)) (h13 : Z 3 - Z 1 = (d13 : Int)) (g13 : Z 1 - Z 3 = -(d13 : Int)) (h23 : Z 3 - Z 2 = (d23 : Int)) (g23 : Z 2 - Z 3 = -(d23 : Int)) : rzz 4 Z V 1 3 = (gr1_3 V d01 d02 d03 d12 d13 d23 : Int) := by
  have e : rzz 4 Z V 1 3 = (V : Int).tdiv ((Z 3 - Z 2) * (1 * 1)) + (0) := rfl
  have t0 : (V : Int).tdiv ((Z 3 - Z 2) * (1 * 1)) = ((V / (d23) : Nat) : Int) := tdp (by
    rw [h23]
    try simp only [Int.natCast_mul]
    grind)
  rw [e, t0]
  unfold gr1_3
  omega
end RZ4
section FOU
variable {m d0 : Int} {X W : Int → Int}
theorem gaps4 (hi : Inj 4 X) (hr : Rz 4 (-9) 9 X) : ∃ a b c : Nat, a < 16 ∧ b < 16 - a ∧ c < 16 - a - b ∧ zoz 4 X 1 = zoz 4 X 0 + (a + 1) ∧ zoz 4 X 2 = zoz 4 X 1 + (b + 1) ∧ zoz 4 X 3 = zoz 4 X 2 + (c + 1) ∧ spz X 0 4 = (gqV a b c : Int) := by
  have h : ∀ p q, 0 ≤ p → p < q → q < 4 → zoz 4 X p < zoz 4 X q := fun p q p0 pq q5 => ivz_lt hi p0 pq q5
  have h2 : zoz 4 X 3 - zoz 4 X 0 ≤ 18 := by
    have a := ivz_s hi (p := 0) (by omega) (by omega)
    have b := ivz_s hi (p := 3) (by omega) (by omega)
    have := hr _ a.1 a.2.1
    have := hr _ b.1 b.2.1
    unfold zoz
    omega
  have hv : spz X 0 4 = vdz (zoz 4 X) 4 := by
    rw [spz_0]
    exact (vdz_iv hi).symm
  have g1 := h 0 1 (by omega) (by omega) (by omega)
  have g2 := h 1 2 (by omega) (by omega) (by omega)
  have g3 := h 2 3 (by omega) (by omega) (by omega)
  rw [hv]
  generalize zoz 4 X = Z at *
  obtain ⟨a, ha⟩ : ∃ a : Nat, Z 1 = Z 0 + (a + 1) := ⟨(Z 1 - Z 0 - 1).toNat, by omega⟩
  obtain ⟨b, hb⟩ : ∃ b : Nat, Z 2 = Z 1 + (b + 1) := ⟨(Z 2 - Z 1 - 1).toNat, by omega⟩
  obtain ⟨c, hc⟩ : ∃ c : Nat, Z 3 = Z 2 + (c + 1) := ⟨(Z 3 - Z 2 - 1).toNat, by omega⟩
  refine ⟨a, b, c, by omega, by omega, by omega, ha, hb, hc, ?_⟩
  show 1 * (((Z 1 - Z 0).natAbs : Int) * 1 * (((Z 2 - Z 0).natAbs : Int) * (((Z 2 - Z 1).natAbs : Int) * 1) * ((((Z 3 - Z 0).natAbs : Int) * (((Z 3 - Z 1).natAbs : Int) * (((Z 3 - Z 2).natAbs : Int) * 1))) * 1))) = _
  rw [show ((Z 1 - Z 0).natAbs : Int) = ((a + 1 : Nat) : Int) by omega, show ((Z 2 - Z 0).natAbs : Int) = ((a + b + 2 : Nat) : Int) by omega, show ((Z 2 - Z 1).natAbs : Int) = ((b + 1 : Nat) : Int) by omega, show ((Z 3 - Z 0).natAbs : Int) = ((a + b + c + 3 : Nat) : Int) by omega, show ((Z 3 - Z 1).natAbs : Int) = ((b + c + 2 : Nat) : Int) by omega, show ((Z 3 - Z 2).natAbs : Int) = ((c + 1 : Nat) : Int) by omega]
  unfold gqV
  generalize a + 1 = x1
  generalize b + 1 = x2
  generalize c + 1 = x3
  generalize a + b + 2 = x5
  generalize b + c + 2 = x6
  generalize a + b + c + 3 = x8
  simp only [Int.natCast_mul, Int.mul_one, Int.one_mul]
  simp only [Int.mul_assoc, Int.mul_comm, Int.mul_left_comm]
theorem gqV_p (a b c : Nat) : 0 < gqV a b c := by
  unfold gqV
  repeat' apply Nat.mul_pos
  all_goals omega
theorem four_3 (hi : Inj 4 X) (hr : Rz 4 (-9) 9 X) (hw : ∀ k, 0 ≤ k → k < 4 → rwz 4 m d0 X W k = blz 4 X 3 k) : wsz 4 (wtz 4 m d0 X W) ≤ 1496 := by
  obtain ⟨a, b, c, a1, b1, c1, e1, e2, e3, eV⟩ := gaps4 hi hr
  obtain ⟨k1, k2⟩ := gck_s (grc3 a a1 b b1 c c1)
  have vp := gqV_p a b c
  have h01 : zoz 4 X 1 - zoz 4 X 0 = ((a + 1 : Nat) : Int) := by omega
  have g01 : zoz 4 X 0 - zoz 4 X 1 = -((a + 1 : Nat) : Int) := by omega
  have h02 : zoz 4 X 2 - zoz 4 X 0 = ((a + b + 2 : Nat) : Int) := by omega
  have g02 : zoz 4 X 0 - zoz 4 X 2 = -((a + b + 2 : Nat) : Int) := by omega
  have h03 : zoz 4 X 3 - zoz 4 X 0 = ((a + b + c + 3 : Nat) : Int) := by omega
  have g03 : zoz 4 X 0 - zoz 4 X 3 = -((a + b + c + 3 : Nat) : Int) := by omega
  have h12 : zoz 4 X 2 - zoz 4 X 1 = ((b + 1 : Nat) : Int) := by omega
  have g12 : zoz 4 X 1 - zoz 4 X 2 = -((b + 1 : Nat) : Int) := by omega
  have h13 : zoz 4 X 3 - zoz 4 X 1 = ((b + c + 2 : Nat) : Int) := by omega
  have g13 : zoz 4 X 1 - zoz 4 X 3 = -((b + c + 2 : Nat) : Int) := by omega
  have h23 : zoz 4 X 3 - zoz 4 X 2 = ((c + 1 : Nat) : Int) := by omega
  have g23 : zoz 4 X 2 - zoz 4 X 3 = -((c + 1 : Nat) : Int) := by omega
  have r0 := ry3_0 (Z := zoz 4 X) (V := gqV a b c) h01 g01 h02 g02 h03 g03 h12 g12 h13 g13 h23 g23
  have r1 := ry3_1 (Z := zoz 4 X) (V := gqV a b c) h01 g01 h02 g02 h03 g03 h12 g12 h13 g13 h23 g23
  have r2 := ry3_2 (Z := zoz 4 X) (V := gqV a b c) h01 g01 h02 g02 h03 g03 h12 g12 h13 g13 h23 g23
  have r3 := ry3_3 (Z := zoz 4 X) (V := gqV a b c) h01 g01 h02 g02 h03 g03 h12 g12 h13 g13 h23 g23
  have q0 : gr3_0 (gqV a b c) (a + 1) (a + b + 2) (a + b + c + 3) (b + 1) (b + c + 2) (c + 1) ∈ gr3 (gqV a b c) (a + 1) (a + b + 2) (a + b + c + 3) (b + 1) (b + c + 2) (c + 1) := by simp [gr3]
  have q1 : gr3_1 (gqV a b c) (a + 1) (a + b + 2) (a + b + c + 3) (b + 1) (b + c + 2) (c + 1) ∈ gr3 (gqV a b c) (a + 1) (a + b + 2) (a + b + c + 3) (b + 1) (b + c + 2) (c + 1) := by simp [gr3]
  have q2 : gr3_2 (gqV a b c) (a + 1) (a + b + 2) (a + b + c + 3) (b + 1) (b + c + 2) (c + 1) ∈ gr3 (gqV a b c) (a + 1) (a + b + 2) (a + b + c + 3) (b + 1) (b + c + 2) (c + 1) := by simp [gr3]
  have q3 : gr3_3 (gqV a b c) (a + 1) (a + b + 2) (a + b + c + 3) (b + 1) (b + c + 2) (c + 1) ∈ gr3 (gqV a b c) (a + 1) (a + b + 2) (a + b + c + 3) (b + 1) (b + c + 2) (c + 1) := by simp [gr3]
  have dv := fun x hx => lgcd_d (gr3 (gqV a b c) (a + 1) (a + b + 2) (a + b + c + 3) (b + 1) (b + c + 2) (c + 1)) x hx
  have ls : lsum (gr3 (gqV a b c) (a + 1) (a + b + 2) (a + b + c + 3) (b + 1) (b + c + 2) (c + 1)) = gr3_0 (gqV a b c) (a + 1) (a + b + 2) (a + b + c + 3) (b + 1) (b + c + 2) (c + 1) + gr3_1 (gqV a b c) (a + 1) (a + b + 2) (a + b + c + 3) (b + 1) (b + c + 2) (c + 1) + gr3_2 (gqV a b c) (a + 1) (a + b + 2) (a + b + c + 3) (b + 1) (b + c + 2) (c + 1) + gr3_3 (gqV a b c) (a + 1) (a + b + 2) (a + b + c + 3) (b + 1) (b + c + 2) (c + 1) := by
    show _ + (_ + (_ + (_ + 0))) = _
    omega
  have lz := lgcd_0 (gr3 (gqV a b c) (a + 1) (a + b + 2) (a + b + c + 3) (b + 1) (b + c + 2) (c + 1))
  have t0 := dv _ q0
  have t1 := dv _ q1
  have t2 := dv _ q2
  have t3 := dv _ q3
  generalize lgcd (gr3 (gqV a b c) (a + 1) (a + b + 2) (a + b + c + 3) (b + 1) (b + c + 2) (c + 1)) = GG at *
  generalize lsum (gr3 (gqV a b c) (a + 1) (a + b + 2) (a + b + c + 3) (b + 1) (b + c + 2) (c + 1)) = LL at *
  generalize gr3_0 (gqV a b c) (a + 1) (a + b + 2) (a + b + c + 3) (b + 1) (b + c + 2) (c + 1) = y0 at *
  generalize gr3_1 (gqV a b c) (a + 1) (a + b + 2) (a + b + c + 3) (b + 1) (b + c + 2) (c + 1) = y1 at *
  generalize gr3_2 (gqV a b c) (a + 1) (a + b + 2) (a + b + c + 3) (b + 1) (b + c + 2) (c + 1) = y2 at *
  generalize gr3_3 (gqV a b c) (a + 1) (a + b + 2) (a + b + c + 3) (b + 1) (b + c + 2) (c + 1) = y3 at *
  have G0 : 0 < GG := by
    rcases Nat.eq_zero_or_pos GG with z | z
    · rw [z] at k2
      omega
    · exact z
  have hr2 : ∀ k, 0 ≤ k → k < 4 → rwz 4 m d0 X W k = rzz 4 (zoz 4 X) (gqV a b c) 3 (plz 4 X k) := fun k k0 k1 => by
    rw [hw k k0 k1, blz_z hi k0 k1, eV]
    rfl
  have hg : gwz 4 m d0 X W 4 ≠ 0 := fun z => by
    have zz : ∀ p, 0 ≤ p → p < 4 → rzz 4 (zoz 4 X) (gqV a b c) 3 p = 0 := fun p p0 p1 => by
      obtain ⟨i0, i1, i2⟩ := ivz_s hi (p := p) p0 p1
      have e := hr2 _ i0 i1
      rw [i2, ← wtz_m i0 i1, z, Int.mul_zero] at e
      exact e.symm
    have z0 := zz 0 (by omega) (by omega)
    have z1 := zz 1 (by omega) (by omega)
    have z2 := zz 2 (by omega) (by omega)
    have z3' := zz 3 (by omega) (by omega)
    rw [r0] at z0
    rw [r1] at z1
    rw [r2] at z2
    rw [r3] at z3'
    have := lz (by omega)
    omega
  have B := wsz_b (s := 1496) (G := GG) (V := gqV a b c) (v := 10000000) (by omega) hi G0 vp hr2 (fun p p0 p1 => ?_) hg ?_ k2
  · exact B.1
  · have cs : p = 0 ∨ p = 1 ∨ p = 2 ∨ p = 3 := by omega
    rcases cs with rfl | rfl | rfl | rfl
    · rw [r0]
      exact Int.dvd_neg.2 (Int.natCast_dvd_natCast.2 t0)
    · rw [r1]
      exact Int.natCast_dvd_natCast.2 t1
    · rw [r2]
      exact Int.dvd_neg.2 (Int.natCast_dvd_natCast.2 t2)
    · rw [r3]
      exact Int.natCast_dvd_natCast.2 t3
  · show ((rzz 4 (zoz 4 X) (gqV a b c) 3 0).natAbs : Int) + (((rzz 4 (zoz 4 X) (gqV a b c) 3 1).natAbs : Int) + (((rzz 4 (zoz 4 X) (gqV a b c) 3 2).natAbs : Int) + (((rzz 4 (zoz 4 X) (gqV a b c) 3 3).natAbs : Int) + 0))) ≤ _
    rw [r0, r1, r2, r3]
    omega
theorem four_2 (hi : Inj 4 X) (hr : Rz 4 (-9) 9 X) (hw : ∀ k, 0 ≤ k → k < 4 → rwz 4 m d0 X W k = blz 4 X 2 k) : wsz 4 (wtz 4 m d0 X W) ≤ 1496 := by
  obtain ⟨a, b, c, a1, b1, c1, e1, e2, e3, eV⟩ := gaps4 hi hr
  obtain ⟨k1, k2⟩ := gck_s (grc2 a a1 b b1 c c1)
  have vp := gqV_p a b c
  have h01 : zoz 4 X 1 - zoz 4 X 0 = ((a + 1 : Nat) : Int) := by omega
  have g01 : zoz 4 X 0 - zoz 4 X 1 = -((a + 1 : Nat) : Int) := by omega
  have h02 : zoz 4 X 2 - zoz 4 X 0 = ((a + b + 2 : Nat) : Int) := by omega
  have g02 : zoz 4 X 0 - zoz 4 X 2 = -((a + b + 2 : Nat) : Int) := by omega
  have h03 : zoz 4 X 3 - zoz 4 X 0 = ((a + b + c + 3 : Nat) : Int) := by omega
  have g03 : zoz 4 X 0 - zoz 4 X 3 = -((a + b + c + 3 : Nat) : Int) := by omega
  have h12 : zoz 4 X 2 - zoz 4 X 1 = ((b + 1 : Nat) : Int) := by omega
  have g12 : zoz 4 X 1 - zoz 4 X 2 = -((b + 1 : Nat) : Int) := by omega
  have h13 : zoz 4 X 3 - zoz 4 X 1 = ((b + c + 2 : Nat) : Int) := by omega
  have g13 : zoz 4 X 1 - zoz 4 X 3 = -((b + c + 2 : Nat) : Int) := by omega
  have h23 : zoz 4 X 3 - zoz 4 X 2 = ((c + 1 : Nat) : Int) := by omega
  have g23 : zoz 4 X 2 - zoz 4 X 3 = -((c + 1 : Nat) : Int) := by omega
  have r0 := ry2_0 (Z := zoz 4 X) (V := gqV a b c) h01 g01 h02 g02 h03 g03 h12 g12 h13 g13 h23 g23
  have r1 := ry2_1 (Z := zoz 4 X) (V := gqV a b c) h01 g01 h02 g02 h03 g03 h12 g12 h13 g13 h23 g23
  have r2 := ry2_2 (Z := zoz 4 X) (V := gqV a b c) h01 g01 h02 g02 h03 g03 h12 g12 h13 g13 h23 g23
  have r3 := ry2_3 (Z := zoz 4 X) (V := gqV a b c) h01 g01 h02 g02 h03 g03 h12 g12 h13 g13 h23 g23
  have q0 : gr2_0 (gqV a b c) (a + 1) (a + b + 2) (a + b + c + 3) (b + 1) (b + c + 2) (c + 1) ∈ gr2 (gqV a b c) (a + 1) (a + b + 2) (a + b + c + 3) (b + 1) (b + c + 2) (c + 1) := by simp [gr2]
  have q1 : gr2_1 (gqV a b c) (a + 1) (a + b + 2) (a + b + c + 3) (b + 1) (b + c + 2) (c + 1) ∈ gr2 (gqV a b c) (a + 1) (a + b + 2) (a + b + c + 3) (b + 1) (b + c + 2) (c + 1) := by simp [gr2]
  have q2 : gr2_2 (gqV a b c) (a + 1) (a + b + 2) (a + b + c + 3) (b + 1) (b + c + 2) (c + 1) ∈ gr2 (gqV a b c) (a + 1) (a + b + 2) (a + b + c + 3) (b + 1) (b + c + 2) (c + 1) := by simp [gr2]
  have q3 : gr2_3 (gqV a b c) (a + 1) (a + b + 2) (a + b + c + 3) (b + 1) (b + c + 2) (c + 1) ∈ gr2 (gqV a b c) (a + 1) (a + b + 2) (a + b + c + 3) (b + 1) (b + c + 2) (c + 1) := by simp [gr2]
  have dv := fun x hx => lgcd_d (gr2 (gqV a b c) (a + 1) (a + b + 2) (a + b + c + 3) (b + 1) (b + c + 2) (c + 1)) x hx
  have ls : lsum (gr2 (gqV a b c) (a + 1) (a + b + 2) (a + b + c + 3) (b + 1) (b + c + 2) (c + 1)) = gr2_0 (gqV a b c) (a + 1) (a + b + 2) (a + b + c + 3) (b + 1) (b + c + 2) (c + 1) + gr2_1 (gqV a b c) (a + 1) (a + b + 2) (a + b + c + 3) (b + 1) (b + c + 2) (c + 1) + gr2_2 (gqV a b c) (a + 1) (a + b + 2) (a + b + c + 3) (b + 1) (b + c + 2) (c + 1) + gr2_3 (gqV a b c) (a + 1) (a + b + 2) (a + b + c + 3) (b + 1) (b + c + 2) (c + 1) := by
    show _ + (_ + (_ + (_ + 0))) = _
    omega
  have lz := lgcd_0 (gr2 (gqV a b c) (a + 1) (a + b + 2) (a + b + c + 3) (b + 1) (b + c + 2) (c + 1))
  have t0 := dv _ q0
  have t1 := dv _ q1
  have t2 := dv _ q2
  have t3 := dv _ q3
  generalize lgcd (gr2 (gqV a b c) (a + 1) (a + b + 2) (a + b + c + 3) (b + 1) (b + c + 2) (c + 1)) = GG at *
  generalize lsum (gr2 (gqV a b c) (a + 1) (a + b + 2) (a + b + c + 3) (b + 1) (b + c + 2) (c + 1)) = LL at *
  generalize gr2_0 (gqV a b c) (a + 1) (a + b + 2) (a + b + c + 3) (b + 1) (b + c + 2) (c + 1) = y0 at *
  generalize gr2_1 (gqV a b c) (a + 1) (a + b + 2) (a + b + c + 3) (b + 1) (b + c + 2) (c + 1) = y1 at *
  generalize gr2_2 (gqV a b c) (a + 1) (a + b + 2) (a + b + c + 3) (b + 1) (b + c + 2) (c + 1) = y2 at *
  generalize gr2_3 (gqV a b c) (a + 1) (a + b + 2) (a + b + c + 3) (b + 1) (b + c + 2) (c + 1) = y3 at *
  have G0 : 0 < GG := by
    rcases Nat.eq_zero_or_pos GG with z | z
    · rw [z] at k2
      omega
    · exact z
  have hr2 : ∀ k, 0 ≤ k → k < 4 → rwz 4 m d0 X W k = rzz 4 (zoz 4 X) (gqV a b c) 2 (plz 4 X k) := fun k k0 k1 => by
    rw [hw k k0 k1, blz_z hi k0 k1, eV]
    rfl
  have hg : gwz 4 m d0 X W 4 ≠ 0 := fun z => by
    have zz : ∀ p, 0 ≤ p → p < 4 → rzz 4 (zoz 4 X) (gqV a b c) 2 p = 0 := fun p p0 p1 => by
      obtain ⟨i0, i1, i2⟩ := ivz_s hi (p := p) p0 p1
      have e := hr2 _ i0 i1
      rw [i2, ← wtz_m i0 i1, z, Int.mul_zero] at e
      exact e.symm
    have z0 := zz 0 (by omega) (by omega)
    have z1 := zz 1 (by omega) (by omega)
    have z2 := zz 2 (by omega) (by omega)
    have z3' := zz 3 (by omega) (by omega)
    rw [r0] at z0
    rw [r1] at z1
    rw [r2] at z2
    rw [r3] at z3'
    have := lz (by omega)
    omega
  have B := wsz_b (s := 1496) (G := GG) (V := gqV a b c) (v := 10000000) (by omega) hi G0 vp hr2 (fun p p0 p1 => ?_) hg ?_ k2
  · exact B.1
  · have cs : p = 0 ∨ p = 1 ∨ p = 2 ∨ p = 3 := by omega
    rcases cs with rfl | rfl | rfl | rfl
    · rw [r0]
      exact Int.natCast_dvd_natCast.2 t0
    · rw [r1]
      exact Int.dvd_neg.2 (Int.natCast_dvd_natCast.2 t1)
    · rw [r2]
      exact Int.natCast_dvd_natCast.2 t2
    · rw [r3]
      exact Int.dvd_neg.2 (Int.natCast_dvd_natCast.2 t3)
  · show ((rzz 4 (zoz 4 X) (gqV a b c) 2 0).natAbs : Int) + (((rzz 4 (zoz 4 X) (gqV a b c) 2 1).natAbs : Int) + (((rzz 4 (zoz 4 X) (gqV a b c) 2 2).natAbs : Int) + (((rzz 4 (zoz 4 X) (gqV a b c) 2 3).natAbs : Int) + 0))) ≤ _
    rw [r0, r1, r2, r3]
    omega
theorem four_1 (hi : Inj 4 X) (hr : Rz 4 (-9) 9 X) (hw : ∀ k, 0 ≤ k → k < 4 → rwz 4 m d0 X W k = blz 4 X 1 k) : wsz 4 (wtz 4 m d0 X W) ≤ 214 := by
  obtain ⟨a, b, c, a1, b1, c1, e1, e2, e3, eV⟩ := gaps4 hi hr
  obtain ⟨k1, k2⟩ := gck_s (grc1 a a1 b b1 c c1)
  have vp := gqV_p a b c
  have h01 : zoz 4 X 1 - zoz 4 X 0 = ((a + 1 : Nat) : Int) := by omega
  have g01 : zoz 4 X 0 - zoz 4 X 1 = -((a + 1 : Nat) : Int) := by omega
  have h02 : zoz 4 X 2 - zoz 4 X 0 = ((a + b + 2 : Nat) : Int) := by omega
  have g02 : zoz 4 X 0 - zoz 4 X 2 = -((a + b + 2 : Nat) : Int) := by omega
  have h03 : zoz 4 X 3 - zoz 4 X 0 = ((a + b + c + 3 : Nat) : Int) := by omega
  have g03 : zoz 4 X 0 - zoz 4 X 3 = -((a + b + c + 3 : Nat) : Int) := by omega
  have h12 : zoz 4 X 2 - zoz 4 X 1 = ((b + 1 : Nat) : Int) := by omega
  have g12 : zoz 4 X 1 - zoz 4 X 2 = -((b + 1 : Nat) : Int) := by omega
  have h13 : zoz 4 X 3 - zoz 4 X 1 = ((b + c + 2 : Nat) : Int) := by omega
  have g13 : zoz 4 X 1 - zoz 4 X 3 = -((b + c + 2 : Nat) : Int) := by omega
  have h23 : zoz 4 X 3 - zoz 4 X 2 = ((c + 1 : Nat) : Int) := by omega
  have g23 : zoz 4 X 2 - zoz 4 X 3 = -((c + 1 : Nat) : Int) := by omega
  have r0 := ry1_0 (Z := zoz 4 X) (V := gqV a b c) h01 g01 h02 g02 h03 g03 h12 g12 h13 g13 h23 g23
  have r1 := ry1_1 (Z := zoz 4 X) (V := gqV a b c) h01 g01 h02 g02 h03 g03 h12 g12 h13 g13 h23 g23
  have r2 := ry1_2 (Z := zoz 4 X) (V := gqV a b c) h01 g01 h02 g02 h03 g03 h12 g12 h13 g13 h23 g23
  have r3 := ry1_3 (Z := zoz 4 X) (V := gqV a b c) h01 g01 h02 g02 h03 g03 h12 g12 h13 g13 h23 g23
  have q0 : gr1_0 (gqV a b c) (a + 1) (a + b + 2) (a + b + c + 3) (b + 1) (b + c + 2) (c + 1) ∈ gr1 (gqV a b c) (a + 1) (a + b + 2) (a + b + c + 3) (b + 1) (b + c + 2) (c + 1) := by simp [gr1]
  have q1 : gr1_1 (gqV a b c) (a + 1) (a + b + 2) (a + b + c + 3) (b + 1) (b + c + 2) (c + 1) ∈ gr1 (gqV a b c) (a + 1) (a + b + 2) (a + b + c + 3) (b + 1) (b + c + 2) (c + 1) := by simp [gr1]
  have q2 : gr1_2 (gqV a b c) (a + 1) (a + b + 2) (a + b + c + 3) (b + 1) (b + c + 2) (c + 1) ∈ gr1 (gqV a b c) (a + 1) (a + b + 2) (a + b + c + 3) (b + 1) (b + c + 2) (c + 1) := by simp [gr1]
  have q3 : gr1_3 (gqV a b c) (a + 1) (a + b + 2) (a + b + c + 3) (b + 1) (b + c + 2) (c + 1) ∈ gr1 (gqV a b c) (a + 1) (a + b + 2) (a + b + c + 3) (b + 1) (b + c + 2) (c + 1) := by simp [gr1]
  have dv := fun x hx => lgcd_d (gr1 (gqV a b c) (a + 1) (a + b + 2) (a + b + c + 3) (b + 1) (b + c + 2) (c + 1)) x hx
  have ls : lsum (gr1 (gqV a b c) (a + 1) (a + b + 2) (a + b + c + 3) (b + 1) (b + c + 2) (c + 1)) = gr1_0 (gqV a b c) (a + 1) (a + b + 2) (a + b + c + 3) (b + 1) (b + c + 2) (c + 1) + gr1_1 (gqV a b c) (a + 1) (a + b + 2) (a + b + c + 3) (b + 1) (b + c + 2) (c + 1) + gr1_2 (gqV a b c) (a + 1) (a + b + 2) (a + b + c + 3) (b + 1) (b + c + 2) (c + 1) + gr1_3 (gqV a b c) (a + 1) (a + b + 2) (a + b + c + 3) (b + 1) (b + c + 2) (c + 1) := by
    show _ + (_ + (_ + (_ + 0))) = _
    omega
  have lz := lgcd_0 (gr1 (gqV a b c) (a + 1) (a + b + 2) (a + b + c + 3) (b + 1) (b + c + 2) (c + 1))
  have t0 := dv _ q0
  have t1 := dv _ q1
  have t2 := dv _ q2
  have t3 := dv _ q3
  generalize lgcd (gr1 (gqV a b c) (a + 1) (a + b + 2) (a + b + c + 3) (b + 1) (b + c + 2) (c + 1)) = GG at *
  generalize lsum (gr1 (gqV a b c) (a + 1) (a + b + 2) (a + b + c + 3) (b + 1) (b + c + 2) (c + 1)) = LL at *
  generalize gr1_0 (gqV a b c) (a + 1) (a + b + 2) (a + b + c + 3) (b + 1) (b + c + 2) (c + 1) = y0 at *
  generalize gr1_1 (gqV a b c) (a + 1) (a + b + 2) (a + b + c + 3) (b + 1) (b + c + 2) (c + 1) = y1 at *
  generalize gr1_2 (gqV a b c) (a + 1) (a + b + 2) (a + b + c + 3) (b + 1) (b + c + 2) (c + 1) = y2 at *
  generalize gr1_3 (gqV a b c) (a + 1) (a + b + 2) (a + b + c + 3) (b + 1) (b + c + 2) (c + 1) = y3 at *
  have G0 : 0 < GG := by
    rcases Nat.eq_zero_or_pos GG with z | z
    · rw [z] at k2
      omega
    · exact z
  have hr2 : ∀ k, 0 ≤ k → k < 4 → rwz 4 m d0 X W k = rzz 4 (zoz 4 X) (gqV a b c) 1 (plz 4 X k) := fun k k0 k1 => by
    rw [hw k k0 k1, blz_z hi k0 k1, eV]
    rfl
  have hg : gwz 4 m d0 X W 4 ≠ 0 := fun z => by
    have zz : ∀ p, 0 ≤ p → p < 4 → rzz 4 (zoz 4 X) (gqV a b c) 1 p = 0 := fun p p0 p1 => by
      obtain ⟨i0, i1, i2⟩ := ivz_s hi (p := p) p0 p1
      have e := hr2 _ i0 i1
      rw [i2, ← wtz_m i0 i1, z, Int.mul_zero] at e
      exact e.symm
    have z0 := zz 0 (by omega) (by omega)
    have z1 := zz 1 (by omega) (by omega)
    have z2 := zz 2 (by omega) (by omega)
    have z3' := zz 3 (by omega) (by omega)
    rw [r0] at z0
    rw [r1] at z1
    rw [r2] at z2
    rw [r3] at z3'
    have := lz (by omega)
    omega
  have B := wsz_b (s := 214) (G := GG) (V := gqV a b c) (v := 10000000) (by omega) hi G0 vp hr2 (fun p p0 p1 => ?_) hg ?_ k2
  · exact B.1
  · have cs : p = 0 ∨ p = 1 ∨ p = 2 ∨ p = 3 := by omega
    rcases cs with rfl | rfl | rfl | rfl
    · rw [r0]
      exact Int.dvd_neg.2 (Int.natCast_dvd_natCast.2 t0)
    · rw [r1]
      exact Int.natCast_dvd_natCast.2 t1
    · rw [r2]
      exact Int.dvd_neg.2 (Int.natCast_dvd_natCast.2 t2)
    · rw [r3]
      exact Int.natCast_dvd_natCast.2 t3
  · show ((rzz 4 (zoz 4 X) (gqV a b c) 1 0).natAbs : Int) + (((rzz 4 (zoz 4 X) (gqV a b c) 1 1).natAbs : Int) + (((rzz 4 (zoz 4 X) (gqV a b c) 1 2).natAbs : Int) + (((rzz 4 (zoz 4 X) (gqV a b c) 1 3).natAbs : Int) + 0))) ≤ _
    rw [r0, r1, r2, r3]
    omega
end FOU
