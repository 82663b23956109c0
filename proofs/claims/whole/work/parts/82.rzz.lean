/-! The weights of five points in order, by their gaps, for windows of five, four, three and two points. -/
def gq4_0 (V d01 d02 d03 d04 d12 d13 d14 d23 d24 d34 : Nat) : Nat := V / (d01 * d02 * d03 * d04)
def gq4_1 (V d01 d02 d03 d04 d12 d13 d14 d23 d24 d34 : Nat) : Nat := V / (d01 * d12 * d13 * d14)
def gq4_2 (V d01 d02 d03 d04 d12 d13 d14 d23 d24 d34 : Nat) : Nat := V / (d02 * d12 * d23 * d24)
def gq4_3 (V d01 d02 d03 d04 d12 d13 d14 d23 d24 d34 : Nat) : Nat := V / (d03 * d13 * d23 * d34)
def gq4_4 (V d01 d02 d03 d04 d12 d13 d14 d23 d24 d34 : Nat) : Nat := V / (d04 * d14 * d24 * d34)
def gq4 (V d01 d02 d03 d04 d12 d13 d14 d23 d24 d34 : Nat) : List Nat := [gq4_0 V d01 d02 d03 d04 d12 d13 d14 d23 d24 d34, gq4_1 V d01 d02 d03 d04 d12 d13 d14 d23 d24 d34, gq4_2 V d01 d02 d03 d04 d12 d13 d14 d23 d24 d34, gq4_3 V d01 d02 d03 d04 d12 d13 d14 d23 d24 d34, gq4_4 V d01 d02 d03 d04 d12 d13 d14 d23 d24 d34]
def gq3_0 (V d01 d02 d03 d04 d12 d13 d14 d23 d24 d34 : Nat) : Nat := V / (d01 * d02 * d03)
def gq3_1 (V d01 d02 d03 d04 d12 d13 d14 d23 d24 d34 : Nat) : Nat := V / (d01 * d12 * d13) + V / (d12 * d13 * d14)
def gq3_2 (V d01 d02 d03 d04 d12 d13 d14 d23 d24 d34 : Nat) : Nat := V / (d02 * d12 * d23) + V / (d12 * d23 * d24)
def gq3_3 (V d01 d02 d03 d04 d12 d13 d14 d23 d24 d34 : Nat) : Nat := V / (d03 * d13 * d23) + V / (d13 * d23 * d34)
def gq3_4 (V d01 d02 d03 d04 d12 d13 d14 d23 d24 d34 : Nat) : Nat := V / (d14 * d24 * d34)
def gq3 (V d01 d02 d03 d04 d12 d13 d14 d23 d24 d34 : Nat) : List Nat := [gq3_0 V d01 d02 d03 d04 d12 d13 d14 d23 d24 d34, gq3_1 V d01 d02 d03 d04 d12 d13 d14 d23 d24 d34, gq3_2 V d01 d02 d03 d04 d12 d13 d14 d23 d24 d34, gq3_3 V d01 d02 d03 d04 d12 d13 d14 d23 d24 d34, gq3_4 V d01 d02 d03 d04 d12 d13 d14 d23 d24 d34]
def gq2_0 (V d01 d02 d03 d04 d12 d13 d14 d23 d24 d34 : Nat) : Nat := V / (d01 * d02)
def gq2_1 (V d01 d02 d03 d04 d12 d13 d14 d23 d24 d34 : Nat) : Nat := V / (d01 * d12) + V / (d12 * d13)
def gq2_2 (V d01 d02 d03 d04 d12 d13 d14 d23 d24 d34 : Nat) : Nat := V / (d02 * d12) + V / (d12 * d23) + V / (d23 * d24)
def gq2_3 (V d01 d02 d03 d04 d12 d13 d14 d23 d24 d34 : Nat) : Nat := V / (d13 * d23) + V / (d23 * d34)
def gq2_4 (V d01 d02 d03 d04 d12 d13 d14 d23 d24 d34 : Nat) : Nat := V / (d24 * d34)
def gq2 (V d01 d02 d03 d04 d12 d13 d14 d23 d24 d34 : Nat) : List Nat := [gq2_0 V d01 d02 d03 d04 d12 d13 d14 d23 d24 d34, gq2_1 V d01 d02 d03 d04 d12 d13 d14 d23 d24 d34, gq2_2 V d01 d02 d03 d04 d12 d13 d14 d23 d24 d34, gq2_3 V d01 d02 d03 d04 d12 d13 d14 d23 d24 d34, gq2_4 V d01 d02 d03 d04 d12 d13 d14 d23 d24 d34]
def gq1_0 (V d01 d02 d03 d04 d12 d13 d14 d23 d24 d34 : Nat) : Nat := V / (d01)
def gq1_1 (V d01 d02 d03 d04 d12 d13 d14 d23 d24 d34 : Nat) : Nat := V / (d01) + V / (d12)
def gq1_2 (V d01 d02 d03 d04 d12 d13 d14 d23 d24 d34 : Nat) : Nat := V / (d12) + V / (d23)
def gq1_3 (V d01 d02 d03 d04 d12 d13 d14 d23 d24 d34 : Nat) : Nat := V / (d23) + V / (d34)
def gq1_4 (V d01 d02 d03 d04 d12 d13 d14 d23 d24 d34 : Nat) : Nat := V / (d34)
def gq1 (V d01 d02 d03 d04 d12 d13 d14 d23 d24 d34 : Nat) : List Nat := [gq1_0 V d01 d02 d03 d04 d12 d13 d14 d23 d24 d34, gq1_1 V d01 d02 d03 d04 d12 d13 d14 d23 d24 d34, gq1_2 V d01 d02 d03 d04 d12 d13 d14 d23 d24 d34, gq1_3 V d01 d02 d03 d04 d12 d13 d14 d23 d24 d34, gq1_4 V d01 d02 d03 d04 d12 d13 d14 d23 d24 d34]
set_option maxRecDepth 100000 in
theorem gqc4 : ∀ a, a < 15 → ∀ b, b < 15 - a → ∀ c, c < 15 - a - b → ∀ d, d < 15 - a - b - c → gck 87750 24504480 (gq4 (gpV a b c d) (a + 1) (a + b + 2) (a + b + c + 3) (a + b + c + d + 4) (b + 1) (b + c + 2) (b + c + d + 3) (c + 1) (c + d + 2) (d + 1)) (gpV a b c d) = true := by decide +kernel
set_option maxRecDepth 100000 in
theorem gqc3 : ∀ a, a < 15 → ∀ b, b < 15 - a → ∀ c, c < 15 - a - b → ∀ d, d < 15 - a - b - c → gck 87750 24504480 (gq3 (gpV a b c d) (a + 1) (a + b + 2) (a + b + c + 3) (a + b + c + d + 4) (b + 1) (b + c + 2) (b + c + d + 3) (c + 1) (c + d + 2) (d + 1)) (gpV a b c d * (a + b + c + d + 4)) = true := by decide +kernel
set_option maxRecDepth 100000 in
theorem gqc2 : ∀ a, a < 15 → ∀ b, b < 15 - a → ∀ c, c < 15 - a - b → ∀ d, d < 15 - a - b - c → gck 26026 60060 (gq2 (gpV a b c d) (a + 1) (a + b + 2) (a + b + c + 3) (a + b + c + d + 4) (b + 1) (b + c + 2) (b + c + d + 3) (c + 1) (c + d + 2) (d + 1)) (gpV a b c d) = true := by decide +kernel
set_option maxRecDepth 100000 in
theorem gqc1 : ∀ a, a < 15 → ∀ b, b < 15 - a → ∀ c, c < 15 - a - b → ∀ d, d < 15 - a - b - c → gck 494 1275458400 (gq1 (gpV a b c d) (a + 1) (a + b + 2) (a + b + c + 3) (a + b + c + d + 4) (b + 1) (b + c + 2) (b + c + d + 3) (c + 1) (c + d + 2) (d + 1)) (gpV a b c d) = true := by decide +kernel
theorem lgcd_d : ∀ (l : List Nat) (x : Nat), x ∈ l → lgcd l ∣ x := by
  intro l
  induction l with
  | nil => intro x h; exact absurd h List.not_mem_nil
  | cons y l ih =>
    intro x h
    show Nat.gcd y (lgcd l) ∣ x
    rcases List.mem_cons.1 h with e | e
    · rw [e]
      exact Nat.gcd_dvd_left _ _
    · exact Nat.dvd_trans (Nat.gcd_dvd_right _ _) (ih x e)
theorem lgcd_0 : ∀ (l : List Nat), lsum l = 0 → lgcd l = 0 := by
  intro l
  induction l with
  | nil => intro _; rfl
  | cons y l ih =>
    intro h
    have h : y + lsum l = 0 := h
    show Nat.gcd y (lgcd l) = 0
    rw [ih (by omega), show y = 0 by omega]
    rfl
theorem gck_s {s v V : Nat} {l : List Nat} (h : gck s v l V = true) : lsum l ≤ s * lgcd l ∧ V ≤ v * lgcd l := by
  unfold gck at h
  rw [Bool.and_eq_true] at h
  exact ⟨Nat.le_of_ble_eq_true h.1, Nat.le_of_ble_eq_true h.2⟩
/-- a weight by the place in order -/
def rzz (C : Int) (Z : Int → Int) (V w p : Int) : Int := smz (fun i => if i % 2 = 0 then V.tdiv (pdz (fun q => if q = p then 1 else Z p - Z q) (i + w + 1 - i).toNat i) else -V.tdiv (pdz (fun q => if q = p then 1 else Z p - Z q) (i + w + 1 - i).toNat i)) (min p (C - 1 - w) + 1 - max 0 (p - w)).toNat (max 0 (p - w))
theorem blz_z {C : Int} {X : Int → Int} (hi : Inj C X) {k : Int} (k0 : 0 ≤ k) (k1 : k < C) (w : Int) : blz C X w k = rzz C (fun p => X (ivz C X p)) (spz X 0 C) w (plz C X k) := by
  unfold blz rzz
  refine smz_c _ _ (fun i i0 i1 => ?_)
  have e : dsz C X k i (i + w) = pdz (fun q => if q = plz C X k then 1 else X (ivz C X (plz C X k)) - X (ivz C X q)) (i + w + 1 - i).toNat i := by
    unfold dsz
    rw [ivz_p hi k0 k1]
  unfold wiz
  rw [e]
theorem tdp {V m : Nat} {D : Int} (h : D = (m : Int)) : (V : Int).tdiv D = ((V / m : Nat) : Int) := by
  rw [h]
  exact (Int.ofNat_tdiv V m).symm
theorem tdn {V m : Nat} {D : Int} (h : D = -(m : Int)) : (V : Int).tdiv D = -((V / m : Nat) : Int) := by
  rw [h, Int.tdiv_neg]
  rw [tdp rfl]
section RZZ
variable {Z : Int → Int} {V d01 d02 d03 d04 d12 d13 d14 d23 d24 d34 : Nat}
theorem rz4_0 (h01 : Z 1 - Z 0 = (d01 : Int)) (g01 : Z 0 - Z 1 = -(d01 : Int)) (h02 : Z 2 - Z 0 = (d02 : Int)) (g02 : Z 0 - Z 2 = -(d02 : Int)) (h03 : Z 3 - Z 0 = (d03 : Int)) (g03 : Z 0 - Z 3 = -(d03 : Int)) (h04 : Z 4 - Z 0 = (d04 : Int)) (g04 : Z 0 - Z 4 = -(d04 : Int)) (h12 : Z 2 - Z 1 = (d12 : Int)) (g12 : Z 1 - Z 2 = -(d12 : Int)) (h13 : Z 3 - Z 1 = (d13 : Int)) (g13 : Z 1 - Z 3 = -(d13 : Int)) (h14 : Z 4 - Z 1 = (d14 : Int)) (g14 : Z 1 - Z 4 = -(d14 : Int)) (h23 : Z 3 - Z 2 = (d23 : Int)) (g23 : Z 2 - Z 3 = -(d23 : Int)) (h24 : Z 4 - Z 2 = (d24 : Int)) (g24 : Z 2 - Z 4 = -(d24 : Int)) (h34 : Z 4 - Z 3 = (d34 : Int)) (g34 : Z 3 - Z 4 = -(d34 : Int)) : rzz 5 Z V 4 0 = (gq4_0 V d01 d02 d03 d04 d12 d13 d14 d23 d24 d34 : Int) := by
  have e : rzz 5 Z V 4 0 = (V : Int).tdiv (1 * ((Z 0 - Z 1) * ((Z 0 - Z 2) * ((Z 0 - Z 3) * ((Z 0 - Z 4) * 1))))) + (0) := rfl
  have t0 : (V : Int).tdiv (1 * ((Z 0 - Z 1) * ((Z 0 - Z 2) * ((Z 0 - Z 3) * ((Z 0 - Z 4) * 1))))) = ((V / (d01 * d02 * d03 * d04) : Nat) : Int) := tdp (by
    rw [g01, g02, g03, g04]
    try simp only [Int.natCast_mul]
    grind)
  rw [e, t0]
  unfold gq4_0
  omega
theorem rz4_1 (h01 : Z 1 - Z 0 = (d01 : Int)) (g01 : Z 0 - Z 1 = -(d01 : Int)) (h02 : Z 2 - Z 0 = (d02 : Int)) (g02 : Z 0 - Z 2 = -(d02 : Int)) (h03 : Z 3 - Z 0 = (d03 : Int)) (g03 : Z 0 - Z 3 = -(d03 : Int)) (h04 : Z 4 - Z 0 = (d04 : Int)) (g04 : Z 0 - Z 4 = -(d04 : Int)) (h12 : Z 2 - Z 1 = (d12 : Int)) (g12 : Z 1 - Z 2 = -(d12 : Int)) (h13 : Z 3 - Z 1 = (d13 : Int)) (g13 : Z 1 - Z 3 = -(d13 : Int)) (h14 : Z 4 - Z 1 = (d14 : Int)) (g14 : Z 1 - Z 4 = -(d14 : Int)) (h23 : Z 3 - Z 2 = (d23 : Int)) (g23 : Z 2 - Z 3 = -(d23 : Int)) (h24 : Z 4 - Z 2 = (d24 : Int)) (g24 : Z 2 - Z 4 = -(d24 : Int)) (h34 : Z 4 - Z 3 = (d34 : Int)) (g34 : Z 3 - Z 4 = -(d34 : Int)) : rzz 5 Z V 4 1 = -(gq4_1 V d01 d02 d03 d04 d12 d13 d14 d23 d24 d34 : Int) := by
  have e : rzz 5 Z V 4 1 = (V : Int).tdiv ((Z 1 - Z 0) * (1 * ((Z 1 - Z 2) * ((Z 1 - Z 3) * ((Z 1 - Z 4) * 1))))) + (0) := rfl
  have t0 : (V : Int).tdiv ((Z 1 - Z 0) * (1 * ((Z 1 - Z 2) * ((Z 1 - Z 3) * ((Z 1 - Z 4) * 1))))) = -((V / (d01 * d12 * d13 * d14) : Nat) : Int) := tdn (by
    rw [h01, g12, g13, g14]
    try simp only [Int.natCast_mul]
    grind)
  rw [e, t0]
  unfold gq4_1
  omega
theorem rz4_2 (h01 : Z 1 - Z 0 = (d01 : Int)) (g01 : Z 0 - Z 1 = -(d01 : Int)) (h02 : Z 2 - Z 0 = (d02 : Int)) (g02 : Z 0 - Z 2 = -(d02 : Int)) (h03 : Z 3 - Z 0 = (d03 : Int)) (g03 : Z 0 - Z 3 = -(d03 : Int)) (h04 : Z 4 - Z 0 = (d04 : Int)) (g04 : Z 0 - Z 4 = -(d04 : Int)) (h12 : Z 2 - Z 1 = (d12 : Int)) (g12 : Z 1 - Z 2 = -(d12 : Int)) (h13 : Z 3 - Z 1 = (d13 : Int)) (g13 : Z 1 - Z 3 = -(d13 : Int)) (h14 : Z 4 - Z 1 = (d14 : Int)) (g14 : Z 1 - Z 4 = -(d14 : Int)) (h23 : Z 3 - Z 2 = (d23 : Int)) (g23 : Z 2 - Z 3 = -(d23 : Int)) (h24 : Z 4 - Z 2 = (d24 : Int)) (g24 : Z 2 - Z 4 = -(d24 : Int)) (h34 : Z 4 - Z 3 = (d34 : Int)) (g34 : Z 3 - Z 4 = -(d34 : Int)) : rzz 5 Z V 4 2 = (gq4_2 V d01 d02 d03 d04 d12 d13 d14 d23 d24 d34 : Int) := by
  have e : rzz 5 Z V 4 2 = (V : Int).tdiv ((Z 2 - Z 0) * ((Z 2 - Z 1) * (1 * ((Z 2 - Z 3) * ((Z 2 - Z 4) * 1))))) + (0) := rfl
  have t0 : (V : Int).tdiv ((Z 2 - Z 0) * ((Z 2 - Z 1) * (1 * ((Z 2 - Z 3) * ((Z 2 - Z 4) * 1))))) = ((V / (d02 * d12 * d23 * d24) : Nat) : Int) := tdp (by
    rw [h02, h12, g23, g24]
    try simp only [Int.natCast_mul]
    grind)
  rw [e, t0]
  unfold gq4_2
  omega
theorem rz4_3 (h01 : Z 1 - Z 0 = (d01 : Int)) (g01 : Z 0 - Z 1 = -(d01 : Int)) (h02 : Z 2 - Z 0 = (d02 : Int)) (g02 : Z 0 - Z 2 = -(d02 : Int)) (h03 : Z 3 - Z 0 = (d03 : Int)) (g03 : Z 0 - Z 3 = -(d03 : Int)) (h04 : Z 4 - Z 0 = (d04 : Int)) (g04 : Z 0 - Z 4 = -(d04 : Int)) (h12 : Z 2 - Z 1 = (d12 : Int)) (g12 : Z 1 - Z 2 = -(d12 : Int)) (h13 : Z 3 - Z 1 = (d13 : Int)) (g13 : Z 1 - Z 3 = -(d13 : Int)) (h14 : Z 4 - Z 1 = (d14 : Int)) (g14 : Z 1 - Z 4 = -(d14 : Int)) (h23 : Z 3 - Z 2 = (d23 : Int)) (g23 : Z 2 - Z 3 = -(d23 : Int)) (h24 : Z 4 - Z 2 = (d24 : Int)) (g24 : Z 2 - Z 4 = -(d24 : Int)) (h34 : Z 4 - Z 3 = (d34 : Int)) (g34 : Z 3 - Z 4 = -(d34 : Int)) : rzz 5 Z V 4 3 = -(gq4_3 V d01 d02 d03 d04 d12 d13 d14 d23 d24 d34 : Int) := by
  have e : rzz 5 Z V 4 3 = (V : Int).tdiv ((Z 3 - Z 0) * ((Z 3 - Z 1) * ((Z 3 - Z 2) * (1 * ((Z 3 - Z 4) * 1))))) + (0) := rfl
  have t0 : (V : Int).tdiv ((Z 3 - Z 0) * ((Z 3 - Z 1) * ((Z 3 - Z 2) * (1 * ((Z 3 - Z 4) * 1))))) = -((V / (d03 * d13 * d23 * d34) : Nat) : Int) := tdn (by
    rw [h03, h13, h23, g34]
    try simp only [Int.natCast_mul]
    grind)
  rw [e, t0]
  unfold gq4_3
  omega
theorem rz4_4 (h01 : Z 1 - Z 0 = (d01 : Int)) (g01 : Z 0 - Z 1 = -(d01 : Int)) (h02 : Z 2 - Z 0 = (d02 : Int)) (g02 : Z 0 - Z 2 = -(d02 : Int)) (h03 : Z 3 - Z 0 = (d03 : Int)) (g03 : Z 0 - Z 3 = -(d03 : Int)) (h04 : Z 4 - Z 0 = (d04 : Int)) (g04 : Z 0 - Z 4 = -(d04 : Int)) (h12 : Z 2 - Z 1 = (d12 : Int)) (g12 : Z 1 - Z 2 = -(d12 : Int)) (h13 : Z 3 - Z 1 = (d13 : Int)) (g13 : Z 1 - Z 3 = -(d13 : Int)) (h14 : Z 4 - Z 1 = (d14 : Int)) (g14 : Z 1 - Z 4 = -(d14 : Int)) (h23 : Z 3 - Z 2 = (d23 : Int)) (g23 : Z 2 - Z 3 = -(d23 : Int)) (h24 : Z 4 - Z 2 = (d24 : Int)) (g24 : Z 2 - Z 4 = -(d24 : Int)) (h34 : Z 4 - Z 3 = (d34 : Int)) (g34 : Z 3 - Z 4 = -(d34 : Int)) : rzz 5 Z V 4 4 = (gq4_4 V d01 d02 d03 d04 d12 d13 d14 d23 d24 d34 : Int) := by
  have e : rzz 5 Z V 4 4 = (V : Int).tdiv ((Z 4 - Z 0) * ((Z 4 - Z 1) * ((Z 4 - Z 2) * ((Z 4 - Z 3) * (1 * 1))))) + (0) := rfl
  have t0 : (V : Int).tdiv ((Z 4 - Z 0) * ((Z 4 - Z 1) * ((Z 4 - Z 2) * ((Z 4 - Z 3) * (1 * 1))))) = ((V / (d04 * d14 * d24 * d34) : Nat) : Int) := tdp (by
    rw [h04, h14, h24, h34]
    try simp only [Int.natCast_mul]
    grind)
  rw [e, t0]
  unfold gq4_4
  omega
theorem rz3_0 (h01 : Z 1 - Z 0 = (d01 : Int)) (g01 : Z 0 - Z 1 = -(d01 : Int)) (h02 : Z 2 - Z 0 = (d02 : Int)) (g02 : Z 0 - Z 2 = -(d02 : Int)) (h03 : Z 3 - Z 0 = (d03 : Int)) (g03 : Z 0 - Z 3 = -(d03 : Int)) (h04 : Z 4 - Z 0 = (d04 : Int)) (g04 : Z 0 - Z 4 = -(d04 : Int)) (h12 : Z 2 - Z 1 = (d12 : Int)) (g12 : Z 1 - Z 2 = -(d12 : Int)) (h13 : Z 3 - Z 1 = (d13 : Int)) (g13 : Z 1 - Z 3 = -(d13 : Int)) (h14 : Z 4 - Z 1 = (d14 : Int)) (g14 : Z 1 - Z 4 = -(d14 : Int)) (h23 : Z 3 - Z 2 = (d23 : Int)) (g23 : Z 2 - Z 3 = -(d23 : Int)) (h24 : Z 4 - Z 2 = (d24 : Int)) (g24 : Z 2 - Z 4 = -(d24 : Int)) (h34 : Z 4 - Z 3 = (d34 : Int)) (g34 : Z 3 - Z 4 = -(d34 : Int)) : rzz 5 Z V 3 0 = -(gq3_0 V d01 d02 d03 d04 d12 d13 d14 d23 d24 d34 : Int) := by
  have e : rzz 5 Z V 3 0 = (V : Int).tdiv (1 * ((Z 0 - Z 1) * ((Z 0 - Z 2) * ((Z 0 - Z 3) * 1)))) + (0) := rfl
  have t0 : (V : Int).tdiv (1 * ((Z 0 - Z 1) * ((Z 0 - Z 2) * ((Z 0 - Z 3) * 1)))) = -((V / (d01 * d02 * d03) : Nat) : Int) := tdn (by
    rw [g01, g02, g03]
    try simp only [Int.natCast_mul]
    grind)
  rw [e, t0]
  unfold gq3_0
  omega
theorem rz3_1 (h01 : Z 1 - Z 0 = (d01 : Int)) (g01 : Z 0 - Z 1 = -(d01 : Int)) (h02 : Z 2 - Z 0 = (d02 : Int)) (g02 : Z 0 - Z 2 = -(d02 : Int)) (h03 : Z 3 - Z 0 = (d03 : Int)) (g03 : Z 0 - Z 3 = -(d03 : Int)) (h04 : Z 4 - Z 0 = (d04 : Int)) (g04 : Z 0 - Z 4 = -(d04 : Int)) (h12 : Z 2 - Z 1 = (d12 : Int)) (g12 : Z 1 - Z 2 = -(d12 : Int)) (h13 : Z 3 - Z 1 = (d13 : Int)) (g13 : Z 1 - Z 3 = -(d13 : Int)) (h14 : Z 4 - Z 1 = (d14 : Int)) (g14 : Z 1 - Z 4 = -(d14 : Int)) (h23 : Z 3 - Z 2 = (d23 : Int)) (g23 : Z 2 - Z 3 = -(d23 : Int)) (h24 : Z 4 - Z 2 = (d24 : Int)) (g24 : Z 2 - Z 4 = -(d24 : Int)) (h34 : Z 4 - Z 3 = (d34 : Int)) (g34 : Z 3 - Z 4 = -(d34 : Int)) : rzz 5 Z V 3 1 = (gq3_1 V d01 d02 d03 d04 d12 d13 d14 d23 d24 d34 : Int) := by
  have e : rzz 5 Z V 3 1 = (V : Int).tdiv ((Z 1 - Z 0) * (1 * ((Z 1 - Z 2) * ((Z 1 - Z 3) * 1)))) + (-((V : Int).tdiv (1 * ((Z 1 - Z 2) * ((Z 1 - Z 3) * ((Z 1 - Z 4) * 1))))) + (0)) := rfl
  have t0 : (V : Int).tdiv ((Z 1 - Z 0) * (1 * ((Z 1 - Z 2) * ((Z 1 - Z 3) * 1)))) = ((V / (d01 * d12 * d13) : Nat) : Int) := tdp (by
    rw [h01, g12, g13]
    try simp only [Int.natCast_mul]
    grind)
  have t1 : (V : Int).tdiv (1 * ((Z 1 - Z 2) * ((Z 1 - Z 3) * ((Z 1 - Z 4) * 1)))) = -((V / (d12 * d13 * d14) : Nat) : Int) := tdn (by
    rw [g12, g13, g14]
    try simp only [Int.natCast_mul]
    grind)
  rw [e, t0, t1]
  unfold gq3_1
  omega
theorem rz3_2 (h01 : Z 1 - Z 0 = (d01 : Int)) (g01 : Z 0 - Z 1 = -(d01 : Int)) (h02 : Z 2 - Z 0 = (d02 : Int)) (g02 : Z 0 - Z 2 = -(d02 : Int)) (h03 : Z 3 - Z 0 = (d03 : Int)) (g03 : Z 0 - Z 3 = -(d03 : Int)) (h04 : Z 4 - Z 0 = (d04 : Int)) (g04 : Z 0 - Z 4 = -(d04 : Int)) (h12 : Z 2 - Z 1 = (d12 : Int)) (g12 : Z 1 - Z 2 = -(d12 : Int)) (h13 : Z 3 - Z 1 = (d13 : Int)) (g13 : Z 1 - Z 3 = -(d13 : Int)) (h14 : Z 4 - Z 1 = (d14 : Int)) (g14 : Z 1 - Z 4 = -(d14 : Int)) (h23 : Z 3 - Z 2 = (d23 : Int)) (g23 : Z 2 - Z 3 = -(d23 : Int)) (h24 : Z 4 - Z 2 = (d24 : Int)) (g24 : Z 2 - Z 4 = -(d24 : Int)) (h34 : Z 4 - Z 3 = (d34 : Int)) (g34 : Z 3 - Z 4 = -(d34 : Int)) : rzz 5 Z V 3 2 = -(gq3_2 V d01 d02 d03 d04 d12 d13 d14 d23 d24 d34 : Int) := by
  have e : rzz 5 Z V 3 2 = (V : Int).tdiv ((Z 2 - Z 0) * ((Z 2 - Z 1) * (1 * ((Z 2 - Z 3) * 1)))) + (-((V : Int).tdiv ((Z 2 - Z 1) * (1 * ((Z 2 - Z 3) * ((Z 2 - Z 4) * 1))))) + (0)) := rfl
  have t0 : (V : Int).tdiv ((Z 2 - Z 0) * ((Z 2 - Z 1) * (1 * ((Z 2 - Z 3) * 1)))) = -((V / (d02 * d12 * d23) : Nat) : Int) := tdn (by
    rw [h02, h12, g23]
    try simp only [Int.natCast_mul]
    grind)
  have t1 : (V : Int).tdiv ((Z 2 - Z 1) * (1 * ((Z 2 - Z 3) * ((Z 2 - Z 4) * 1)))) = ((V / (d12 * d23 * d24) : Nat) : Int) := tdp (by
    rw [h12, g23, g24]
    try simp only [Int.natCast_mul]
    grind)
  rw [e, t0, t1]
  unfold gq3_2
  omega
theorem rz3_3 (h01 : Z 1 - Z 0 = (d01 : Int)) (g01 : Z 0 - Z 1 = -(d01 : Int)) (h02 : Z 2 - Z 0 = (d02 : Int)) (g02 : Z 0 - Z 2 = -(d02 : Int)) (h03 : Z 3 - Z 0 = (d03 : Int)) (g03 : Z 0 - Z 3 = -(d03 : Int)) (h04 : Z 4 - Z 0 = (d04 : Int)) (g04 : Z 0 - Z 4 = -(d04 : Int)) (h12 : Z 2 - Z 1 = (d12 : Int)) (g12 : Z 1 - Z 2 = -(d12 : Int)) (h13 : Z 3 - Z 1 = (d13 : Int)) (g13 : Z 1 - Z 3 = -(d13 : Int)) (h14 : Z 4 - Z 1 = (d14 : Int)) (g14 : Z 1 - Z 4 = -(d14 : Int)) (h23 : Z 3 - Z 2 = (d23 : Int)) (g23 : Z 2 - Z 3 = -(d23 : Int)) (h24 : Z 4 - Z 2 = (d24 : Int)) (g24 : Z 2 - Z 4 = -(d24 : Int)) (h34 : Z 4 - Z 3 = (d34 : Int)) (g34 : Z 3 - Z 4 = -(d34 : Int)) : rzz 5 Z V 3 3 = (gq3_3 V d01 d02 d03 d04 d12 d13 d14 d23 d24 d34 : Int) := by
  have e : rzz 5 Z V 3 3 = (V : Int).tdiv ((Z 3 - Z 0) * ((Z 3 - Z 1) * ((Z 3 - Z 2) * (1 * 1)))) + (-((V : Int).tdiv ((Z 3 - Z 1) * ((Z 3 - Z 2) * (1 * ((Z 3 - Z 4) * 1))))) + (0)) := rfl
  have t0 : (V : Int).tdiv ((Z 3 - Z 0) * ((Z 3 - Z 1) * ((Z 3 - Z 2) * (1 * 1)))) = ((V / (d03 * d13 * d23) : Nat) : Int) := tdp (by
    rw [h03, h13, h23]
    try simp only [Int.natCast_mul]
    grind)
  have t1 : (V : Int).tdiv ((Z 3 - Z 1) * ((Z 3 - Z 2) * (1 * ((Z 3 - Z 4) * 1)))) = -((V / (d13 * d23 * d34) : Nat) : Int) := tdn (by
    rw [h13, h23, g34]
    try simp only [Int.natCast_mul]
    grind)
  rw [e, t0, t1]
  unfold gq3_3
  omega
theorem rz3_4 (h01 : Z 1 - Z 0 = (d01 : Int)) (g01 : Z 0 - Z 1 = -(d01 : Int)) (h02 : Z 2 - Z 0 = (d02 : Int)) (g02 : Z 0 - Z 2 = -(d02 : Int)) (h03 : Z 3 - Z 0 = (d03 : Int)) (g03 : Z 0 - Z 3 = -(d03 : Int)) (h04 : Z 4 - Z 0 = (d04 : Int)) (g04 : Z 0 - Z 4 = -(d04 : Int)) (h12 : Z 2 - Z 1 = (d12 : Int)) (g12 : Z 1 - Z 2 = -(d12 : Int)) (h13 : Z 3 - Z 1 = (d13 : Int)) (g13 : Z 1 - Z 3 = -(d13 : Int)) (h14 : Z 4 - Z 1 = (d14 : Int)) (g14 : Z 1 - Z 4 = -(d14 : Int)) (h23 : Z 3 - Z 2 = (d23 : Int)) (g23 : Z 2 - Z 3 = -(d23 : Int)) (h24 : Z 4 - Z 2 = (d24 : Int)) (g24 : Z 2 - Z 4 = -(d24 : Int)) (h34 : Z 4 - Z 3 = (d34 : Int)) (g34 : Z 3 - Z 4 = -(d34 : Int)) : rzz 5 Z V 3 4 = -(gq3_4 V d01 d02 d03 d04 d12 d13 d14 d23 d24 d34 : Int) := by
  have e : rzz 5 Z V 3 4 = -((V : Int).tdiv ((Z 4 - Z 1) * ((Z 4 - Z 2) * ((Z 4 - Z 3) * (1 * 1))))) + (0) := rfl
  have t0 : (V : Int).tdiv ((Z 4 - Z 1) * ((Z 4 - Z 2) * ((Z 4 - Z 3) * (1 * 1)))) = ((V / (d14 * d24 * d34) : Nat) : Int) := tdp (by
    rw [h14, h24, h34]
    try simp only [Int.natCast_mul]
    grind)
  rw [e, t0]
  unfold gq3_4
  omega
theorem rz2_0 (h01 : Z 1 - Z 0 = (d01 : Int)) (g01 : Z 0 - Z 1 = -(d01 : Int)) (h02 : Z 2 - Z 0 = (d02 : Int)) (g02 : Z 0 - Z 2 = -(d02 : Int)) (h03 : Z 3 - Z 0 = (d03 : Int)) (g03 : Z 0 - Z 3 = -(d03 : Int)) (h04 : Z 4 - Z 0 = (d04 : Int)) (g04 : Z 0 - Z 4 = -(d04 : Int)) (h12 : Z 2 - Z 1 = (d12 : Int)) (g12 : Z 1 - Z 2 = -(d12 : Int)) (h13 : Z 3 - Z 1 = (d13 : Int)) (g13 : Z 1 - Z 3 = -(d13 : Int)) (h14 : Z 4 - Z 1 = (d14 : Int)) (g14 : Z 1 - Z 4 = -(d14 : Int)) (h23 : Z 3 - Z 2 = (d23 : Int)) (g23 : Z 2 - Z 3 = -(d23 : Int)) (h24 : Z 4 - Z 2 = (d24 : Int)) (g24 : Z 2 - Z 4 = -(d24 : Int)) (h34 : Z 4 - Z 3 = (d34 : Int)) (g34 : Z 3 - Z 4 = -(d34 : Int)) : rzz 5 Z V 2 0 = (gq2_0 V d01 d02 d03 d04 d12 d13 d14 d23 d24 d34 : Int) := by
  have e : rzz 5 Z V 2 0 = (V : Int).tdiv (1 * ((Z 0 - Z 1) * ((Z 0 - Z 2) * 1))) + (0) := rfl
  have t0 : (V : Int).tdiv (1 * ((Z 0 - Z 1) * ((Z 0 - Z 2) * 1))) = ((V / (d01 * d02) : Nat) : Int) := tdp (by
    rw [g01, g02]
    try simp only [Int.natCast_mul]
    grind)
  rw [e, t0]
  unfold gq2_0
  omega
theorem rz2_1 (h01 : Z 1 - Z 0 = (d01 : Int)) (g01 : Z 0 - Z 1 = -(d01 : Int)) (h02 : Z 2 - Z 0 = (d02 : Int)) (g02 : Z 0 - Z 2 = -(d02 : Int)) (h03 : Z 3 - Z 0 = (d03 : Int)) (g03 : Z 0 - Z 3 = -(d03 : Int)) (h04 : Z 4 - Z 0 = (d04 : Int)) (g04 : Z 0 - Z 4 = -(d04 : Int)) (h12 : Z 2 - Z 1 = (d12 : Int)) (g12 : Z 1 - Z 2 = -(d12 : Int)) (h13 : Z 3 - Z 1 = (d13 : Int)) (g13 : Z 1 - Z 3 = -(d13 : Int)) (h14 : Z 4 - Z 1 = (d14 : Int)) (g14 : Z 1 - Z 4 = -(d14 : Int)) (h23 : Z 3 - Z 2 = (d23 : Int)) (g23 : Z 2 - Z 3 = -(d23 : Int)) (h24 : Z 4 - Z 2 = (d24 : Int)) (g24 : Z 2 - Z 4 = -(d24 : Int)) (h34 : Z 4 - Z 3 = (d34 : Int)) (g34 : Z 3 - Z 4 = -(d34 : Int)) : rzz 5 Z V 2 1 = -(gq2_1 V d01 d02 d03 d04 d12 d13 d14 d23 d24 d34 : Int) := by
  have e : rzz 5 Z V 2 1 = (V : Int).tdiv ((Z 1 - Z 0) * (1 * ((Z 1 - Z 2) * 1))) + (-((V : Int).tdiv (1 * ((Z 1 - Z 2) * ((Z 1 - Z 3) * 1)))) + (0)) := rfl
  have t0 : (V : Int).tdiv ((Z 1 - Z 0) * (1 * ((Z 1 - Z 2) * 1))) = -((V / (d01 * d12) : Nat) : Int) := tdn (by
    rw [h01, g12]
    try simp only [Int.natCast_mul]
    grind)
  have t1 : (V : Int).tdiv (1 * ((Z 1 - Z 2) * ((Z 1 - Z 3) * 1))) = ((V / (d12 * d13) : Nat) : Int) := tdp (by
    rw [g12, g13]
    try simp only [Int.natCast_mul]
    grind)
  rw [e, t0, t1]
  unfold gq2_1
  omega
theorem rz2_2 (h01 : Z 1 - Z 0 = (d01 : Int)) (g01 : Z 0 - Z 1 = -(d01 : Int)) (h02 : Z 2 - Z 0 = (d02 : Int)) (g02 : Z 0 - Z 2 = -(d02 : Int)) (h03 : Z 3 - Z 0 = (d03 : Int)) (g03 : Z 0 - Z 3 = -(d03 : Int)) (h04 : Z 4 - Z 0 = (d04 : Int)) (g04 : Z 0 - Z 4 = -(d04 : Int)) (h12 : Z 2 - Z 1 = (d12 : Int)) (g12 : Z 1 - Z 2 = -(d12 : Int)) (h13 : Z 3 - Z 1 = (d13 : Int)) (g13 : Z 1 - Z 3 = -(d13 : Int)) (h14 : Z 4 - Z 1 = (d14 : Int)) (g14 : Z 1 - Z 4 = -(d14 : Int)) (h23 : Z 3 - Z 2 = (d23 : Int)) (g23 : Z 2 - Z 3 = -(d23 : Int)) (h24 : Z 4 - Z 2 = (d24 : Int)) (g24 : Z 2 - Z 4 = -(d24 : Int)) (h34 : Z 4 - Z 3 = (d34 : Int)) (g34 : Z 3 - Z 4 = -(d34 : Int)) : rzz 5 Z V 2 2 = (gq2_2 V d01 d02 d03 d04 d12 d13 d14 d23 d24 d34 : Int) := by
  have e : rzz 5 Z V 2 2 = (V : Int).tdiv ((Z 2 - Z 0) * ((Z 2 - Z 1) * (1 * 1))) + (-((V : Int).tdiv ((Z 2 - Z 1) * (1 * ((Z 2 - Z 3) * 1)))) + ((V : Int).tdiv (1 * ((Z 2 - Z 3) * ((Z 2 - Z 4) * 1))) + (0))) := rfl
  have t0 : (V : Int).tdiv ((Z 2 - Z 0) * ((Z 2 - Z 1) * (1 * 1))) = ((V / (d02 * d12) : Nat) : Int) := tdp (by
    rw [h02, h12]
    try simp only [Int.natCast_mul]
    grind)
  have t1 : (V : Int).tdiv ((Z 2 - Z 1) * (1 * ((Z 2 - Z 3) * 1))) = -((V / (d12 * d23) : Nat) : Int) := tdn (by
    rw [h12, g23]
    try simp only [Int.natCast_mul]
    grind)
  have t2 : (V : Int).tdiv (1 * ((Z 2 - Z 3) * ((Z 2 - Z 4) * 1))) = ((V / (d23 * d24) : Nat) : Int) := tdp (by
    rw [g23, g24]
    try simp only [Int.natCast_mul]
    grind)
  rw [e, t0, t1, t2]
  unfold gq2_2
  omega
theorem rz2_3 (h01 : Z 1 - Z 0 = (d01 : Int)) (g01 : Z 0 - Z 1 = -(d01 : Int)) (h02 : Z 2 - Z 0 = (d02 : Int)) (g02 : Z 0 - Z 2 = -(d02 : Int)) (h03 : Z 3 - Z 0 = (d03 : Int)) (g03 : Z 0 - Z 3 = -(d03 : Int)) (h04 : Z 4 - Z 0 = (d04 : Int)) (g04 : Z 0 - Z 4 = -(d04 : Int)) (h12 : Z 2 - Z 1 = (d12 : Int)) (g12 : Z 1 - Z 2 = -(d12 : Int)) (h13 : Z 3 - Z 1 = (d13 : Int)) (g13 : Z 1 - Z 3 = -(d13 : Int)) (h14 : Z 4 - Z 1 = (d14 : Int)) (g14 : Z 1 - Z 4 = -(d14 : Int)) (h23 : Z 3 - Z 2 = (d23 : Int)) (g23 : Z 2 - Z 3 = -(d23 : Int)) (h24 : Z 4 - Z 2 = (d24 : Int)) (g24 : Z 2 - Z 4 = -(d24 : Int)) (h34 : Z 4 - Z 3 = (d34 : Int)) (g34 : Z 3 - Z 4 = -(d34 : Int)) : rzz 5 Z V 2 3 = -(gq2_3 V d01 d02 d03 d04 d12 d13 d14 d23 d24 d34 : Int) := by
  have e : rzz 5 Z V 2 3 = -((V : Int).tdiv ((Z 3 - Z 1) * ((Z 3 - Z 2) * (1 * 1)))) + ((V : Int).tdiv ((Z 3 - Z 2) * (1 * ((Z 3 - Z 4) * 1))) + (0)) := rfl
  have t0 : (V : Int).tdiv ((Z 3 - Z 1) * ((Z 3 - Z 2) * (1 * 1))) = ((V / (d13 * d23) : Nat) : Int) := tdp (by
    rw [h13, h23]
    try simp only [Int.natCast_mul]
    grind)
  have t1 : (V : Int).tdiv ((Z 3 - Z 2) * (1 * ((Z 3 - Z 4) * 1))) = -((V / (d23 * d34) : Nat) : Int) := tdn (by
    rw [h23, g34]
    try simp only [Int.natCast_mul]
    grind)
  rw [e, t0, t1]
  unfold gq2_3
  omega
theorem rz2_4 (h01 : Z 1 - Z 0 = (d01 : Int)) (g01 : Z 0 - Z 1 = -(d01 : Int)) (h02 : Z 2 - Z 0 = (d02 : Int)) (g02 : Z 0 - Z 2 = -(d02 : Int)) (h03 : Z 3 - Z 0 = (d03 : Int)) (g03 : Z 0 - Z 3 = -(d03 : Int)) (h04 : Z 4 - Z 0 = (d04 : Int)) (g04 : Z 0 - Z 4 = -(d04 : Int)) (h12 : Z 2 - Z 1 = (d12 : Int)) (g12 : Z 1 - Z 2 = -(d12 : Int)) (h13 : Z 3 - Z 1 = (d13 : Int)) (g13 : Z 1 - Z 3 = -(d13 : Int)) (h14 : Z 4 - Z 1 = (d14 : Int)) (g14 : Z 1 - Z 4 = -(d14 : Int)) (h23 : Z 3 - Z 2 = (d23 : Int)) (g23 : Z 2 - Z 3 = -(d23 : Int)) (h24 : Z 4 - Z 2 = (d24 : Int)) (g24 : Z 2 - Z 4 = -(d24 : Int)) (h34 : Z 4 - Z 3 = (d34 : Int)) (g34 : Z 3 - Z 4 = -(d34 : Int)) : rzz 5 Z V 2 4 = (gq2_4 V d01 d02 d03 d04 d12 d13 d14 d23 d24 d34 : Int) := by
  have e : rzz 5 Z V 2 4 = (V : Int).tdiv ((Z 4 - Z 2) * ((Z 4 - Z 3) * (1 * 1))) + (0) := rfl
  have t0 : (V : Int).tdiv ((Z 4 - Z 2) * ((Z 4 - Z 3) * (1 * 1))) = ((V / (d24 * d34) : Nat) : Int) := tdp (by
    rw [h24, h34]
    try simp only [Int.natCast_mul]
    grind)
  rw [e, t0]
  unfold gq2_4
  omega
theorem rz1_0 (h01 : Z 1 - Z 0 = (d01 : Int)) (g01 : Z 0 - Z 1 = -(d01 : Int)) (h02 : Z 2 - Z 0 = (d02 : Int)) (g02 : Z 0 - Z 2 = -(d02 : Int)) (h03 : Z 3 - Z 0 = (d03 : Int)) (g03 : Z 0 - Z 3 = -(d03 : Int)) (h04 : Z 4 - Z 0 = (d04 : Int)) (g04 : Z 0 - Z 4 = -(d04 : Int)) (h12 : Z 2 - Z 1 = (d12 : Int)) (g12 : Z 1 - Z 2 = -(d12 : Int)) (h13 : Z 3 - Z 1 = (d13 : Int)) (g13 : Z 1 - Z 3 = -(d13 : Int)) (h14 : Z 4 - Z 1 = (d14 : Int)) (g14 : Z 1 - Z 4 = -(d14 : Int)) (h23 : Z 3 - Z 2 = (d23 : Int)) (g23 : Z 2 - Z 3 = -(d23 : Int)) (h24 : Z 4 - Z 2 = (d24 : Int)) (g24 : Z 2 - Z 4 = -(d24 : Int)) (h34 : Z 4 - Z 3 = (d34 : Int)) (g34 : Z 3 - Z 4 = -(d34 : Int)) : rzz 5 Z V 1 0 = -(gq1_0 V d01 d02 d03 d04 d12 d13 d14 d23 d24 d34 : Int) := by
  have e : rzz 5 Z V 1 0 = (V : Int).tdiv (1 * ((Z 0 - Z 1) * 1)) + (0) := rfl
  have t0 : (V : Int).tdiv (1 * ((Z 0 - Z 1) * 1)) = -((V / (d01) : Nat) : Int) := tdn (by
    rw [g01]
    try simp only [Int.natCast_mul]
    grind)
  rw [e, t0]
  unfold gq1_0
  omega
theorem rz1_1 (h01 : Z 1 - Z 0 = (d01 : Int)) (g01 : Z 0 - Z 1 = -(d01 : Int)) (h02 : Z 2 - Z 0 = (d02 : Int)) (g02 : Z 0 - Z 2 = -(d02 : Int)) (h03 : Z 3 - Z 0 = (d03 : Int)) (g03 : Z 0 - Z 3 = -(d03 : Int)) (h04 : Z 4 - Z 0 = (d04 : Int)) (g04 : Z 0 - Z 4 = -(d04 : Int)) (h12 : Z 2 - Z 1 = (d12 : Int)) (g12 : Z 1 - Z 2 = -(d12 : Int)) (h13 : Z 3 - Z 1 = (d13 : Int)) (g13 : Z 1 - Z 3 = -(d13 : Int)) (h14 : Z 4 - Z 1 = (d14 : Int)) (g14 : Z 1 - Z 4 = -(d14 : Int)) (h23 : Z 3 - Z 2 = (d23 : Int)) (g23 : Z 2 - Z 3 = -(d23 : Int)) (h24 : Z 4 - Z 2 = (d24 : Int)) (g24 : Z 2 - Z 4 = -(d24 : Int)) (h34 : Z 4 - Z 3 = (d34 : Int)) (g34 : Z 3 - Z 4 = -(d34 : Int)) : rzz 5 Z V 1 1 = (gq1_1 V d01 d02 d03 d04 d12 d13 d14 d23 d24 d34 : Int) := by
  have e : rzz 5 Z V 1 1 = (V : Int).tdiv ((Z 1 - Z 0) * (1 * 1)) + (-((V : Int).tdiv (1 * ((Z 1 - Z 2) * 1))) + (0)) := rfl
  have t0 : (V : Int).tdiv ((Z 1 - Z 0) * (1 * 1)) = ((V / (d01) : Nat) : Int) := tdp (by
    rw [h01]
    try simp only [Int.natCast_mul]
    grind)
  have t1 : (V : Int).tdiv (1 * ((Z 1 - Z 2) * 1)) = -((V / (d12) : Nat) : Int) := tdn (by
    rw [g12]
    try simp only [Int.natCast_mul]
    grind)
  rw [e, t0, t1]
  unfold gq1_1
  omega
theorem rz1_2 (h01 : Z 1 - Z 0 = (d01 : Int)) (g01 : Z 0 - Z 1 = -(d01 : Int)) (h02 : Z 2 - Z 0 = (d02 : Int)) (g02 : Z 0 - Z 2 = -(d02 : Int)) (h03 : Z 3 - Z 0 = (d03 : Int)) (g03 : Z 0 - Z 3 = -(d03 : Int)) (h04 : Z 4 - Z 0 = (d04 : Int)) (g04 : Z 0 - Z 4 = -(d04 : Int)) (h12 : Z 2 - Z 1 = (d12 : Int)) (g12 : Z 1 - Z 2 = -(d12 : Int)) (h13 : Z 3 - Z 1 = (d13 : Int)) (g13 : Z 1 - Z 3 = -(d13 : Int)) (h14 : Z 4 - Z 1 = (d14 : Int)) (g14 : Z 1 - Z 4 = -(d14 : Int)) (h23 : Z 3 - Z 2 = (d23 : Int)) (g23 : Z 2 - Z 3 = -(d23 : Int)) (h24 : Z 4 - Z 2 = (d24 : Int)) (g24 : Z 2 - Z 4 = -(d24 : Int)) (h34 : Z 4 - Z 3 = (d34 : Int)) (g34 : Z 3 - Z 4 = -(d34 : Int)) : rzz 5 Z V 1 2 = -(gq1_2 V d01 d02 d03 d04 d12 d13 d14 d23 d24 d34 : Int) := by
  have e : rzz 5 Z V 1 2 = -((V : Int).tdiv ((Z 2 - Z 1) * (1 * 1))) + ((V : Int).tdiv (1 * ((Z 2 - Z 3) * 1)) + (0)) := rfl
  have t0 : (V : Int).tdiv ((Z 2 - Z 1) * (1 * 1)) = ((V / (d12) : Nat) : Int) := tdp (by
    rw [h12]
    try simp only [Int.natCast_mul]
    grind)
  have t1 : (V : Int).tdiv (1 * ((Z 2 - Z 3) * 1)) = -((V / (d23) : Nat) : Int) := tdn (by
    rw [g23]
    try simp only [Int.natCast_mul]
    grind)
  rw [e, t0, t1]
  unfold gq1_2
  omega
theorem rz1_3 (h01 : Z 1 - Z 0 = (d01 : Int)) (g01 : Z 0 - Z 1 = -(d01 : Int)) (h02 : Z 2 - Z 0 = (d02 : Int)) (g02 : Z 0 - Z 2 = -(d02 : Int)) (h03 : Z 3 - Z 0 = (d03 : Int)) (g03 : Z 0 - Z 3 = -(d03 : Int)) (h04 : Z 4 - Z 0 = (d04 : Int)) (g04 : Z 0 - Z 4 = -(d04 : Int)) (h12 : Z 2 - Z 1 = (d12 : Int)) (g12 : Z 1 - Z 2 = -(d12 : Int)) (h13 : Z 3 - Z 1 = (d13 : Int)) (g13 : Z 1 - Z 3 = -(d13 : Int)) (h14 : Z 4 - Z 1 = (d14 : Int)) (g14 : Z 1 - Z 4 = -(d14 : Int)) (h23 : Z 3 - Z 2 = (d23 : Int)) (g23 : Z 2 - Z 3 = -(d23 : Int)) (h24 : Z 4 - Z 2 = (d24 : Int)) (g24 : Z 2 - Z 4 = -(d24 : Int)) (h34 : Z 4 - Z 3 = (d34 : Int)) (g34 : Z 3 - Z 4 = -(d34 : Int)) : rzz 5 Z V 1 3 = (gq1_3 V d01 d02 d03 d04 d12 d13 d14 d23 d24 d34 : Int) := by
  have e : rzz 5 Z V 1 3 = (V : Int).tdiv ((Z 3 - Z 2) * (1 * 1)) + (-((V : Int).tdiv (1 * ((Z 3 - Z 4) * 1))) + (0)) := rfl
  have t0 : (V : Int).tdiv ((Z 3 - Z 2) * (1 * 1)) = ((V / (d23) : Nat) : Int) := tdp (by
    rw [h23]
    try simp only [Int.natCast_mul]
    grind)
  have t1 : (V : Int).tdiv (1 * ((Z 3 - Z 4) * 1)) = -((V / (d34) : Nat) : Int) := tdn (by
    rw [g34]
    try simp only [Int.natCast_mul]
    grind)
  rw [e, t0, t1]
  unfold gq1_3
  omega
theorem rz1_4 (h01 : Z 1 - Z 0 = (d01 : Int)) (g01 : Z 0 - Z 1 = -(d01 : Int)) (h02 : Z 2 - Z 0 = (d02 : Int)) (g02 : Z 0 - Z 2 = -(d02 : Int)) (h03 : Z 3 - Z 0 = (d03 : Int)) (g03 : Z 0 - Z 3 = -(d03 : Int)) (h04 : Z 4 - Z 0 = (d04 : Int)) (g04 : Z 0 - Z 4 = -(d04 : Int)) (h12 : Z 2 - Z 1 = (d12 : Int)) (g12 : Z 1 - Z 2 = -(d12 : Int)) (h13 : Z 3 - Z 1 = (d13 : Int)) (g13 : Z 1 - Z 3 = -(d13 : Int)) (h14 : Z 4 - Z 1 = (d14 : Int)) (g14 : Z 1 - Z 4 = -(d14 : Int)) (h23 : Z 3 - Z 2 = (d23 : Int)) (g23 : Z 2 - Z 3 = -(d23 : Int)) (h24 : Z 4 - Z 2 = (d24 : Int)) (g24 : Z 2 - Z 4 = -(d24 : Int)) (h34 : Z 4 - Z 3 = (d34 : Int)) (g34 : Z 3 - Z 4 = -(d34 : Int)) : rzz 5 Z V 1 4 = -(gq1_4 V d01 d02 d03 d04 d12 d13 d14 d23 d24 d34 : Int) := by
  have e : rzz 5 Z V 1 4 = -((V : Int).tdiv ((Z 4 - Z 3) * (1 * 1))) + (0) := rfl
  have t0 : (V : Int).tdiv ((Z 4 - Z 3) * (1 * 1)) = ((V / (d34) : Nat) : Int) := tdp (by
    rw [h34]
    try simp only [Int.natCast_mul]
    grind)
  rw [e, t0]
  unfold gq1_4
  omega
end RZZ
