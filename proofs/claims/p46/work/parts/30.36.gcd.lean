/-! The greatest common divisor on both sides. -/
theorem z6mod {x y : Nat} (hx : (x : Int) < 9223372036854775808) (hy : (y : Int) < 9223372036854775808) : z6 (x : Int) - z6 (x : Int) / z6 (y : Int) * z6 (y : Int) = z6 ((x % y : Nat) : Int) := by
  rw [z6d (by omega) hx (by omega) hy, z6m, z6s, ← Int.ofNat_tdiv]
  congr 1
  have := Nat.mod_add_div' x y
  have e : ((x / y : Nat) : Int) * (y : Int) = ((x / y * y : Nat) : Int) := by rw [Int.natCast_mul]
  rw [e]
  omega
theorem z6z : z6 ((0 : Nat) : Int) = 0 := rfl
theorem gcd_st (x y : Nat) : Nat.gcd x y = Nat.gcd y (x % y) := by rw [Nat.gcd_comm x y, Nat.gcd_rec, Nat.gcd_comm]
theorem mod_half {x y k : Nat} (h : y < 2 * k) (h0 : x % y ≠ 0) : y % (x % y) < k := by
  rcases Nat.eq_zero_or_pos y with w | hy
  · subst w
    rw [Nat.zero_mod]
    omega
  have a := Nat.mod_lt x hy
  have b := Nat.mod_lt y (Nat.pos_of_ne_zero h0)
  by_cases w : 2 * (x % y) ≤ y
  · omega
  · have : y % (x % y) = y - x % y := by
      rw [Nat.mod_eq_sub_mod (by omega), Nat.mod_eq_of_lt (by omega)]
    omega
theorem gcd3_go : ∀ (t n x y : Nat) (st : Int), 0 ≤ st → st + 2 * t < 200 → (x : Int) < 9223372036854775808 → (y : Int) < 9223372036854775808 → y < 2 ^ t → 2 * t + 1 ≤ n → lX1_divisor_15 n (z6 x) (z6 y) (z3 st) = some (z6 (Nat.gcd x y)) := by
  intro t
  induction t with
  | zero =>
    intro n x y st s0 s1 hx hy h hn
    obtain ⟨n, rfl⟩ : ∃ q, n = q + 1 := ⟨n - 1, by omega⟩
    have e : y = 0 := by omega
    subst e
    have g : ¬ (200 : Int32) ≤ z3 st := by rw [l3_200, z3le (by omega) (by omega) (by omega) (by omega)]; omega
    rw [lX1_divisor_15, if_neg g, if_pos z6z, Nat.gcd_zero_right]
  | succ t ih =>
    intro n x y st s0 s1 hx hy h hn
    obtain ⟨n, rfl⟩ : ∃ q, n = q + 1 := ⟨n - 1, by omega⟩
    have h2 : y < 2 * 2 ^ t := by rw [Nat.pow_succ] at h; omega
    have g : ¬ (200 : Int32) ≤ z3 st := by rw [l3_200, z3le (by omega) (by omega) (by omega) (by omega)]; omega
    have g2 : ¬ (200 : Int32) ≤ z3 (st + 1) := by rw [l3_200, z3le (by omega) (by omega) (by omega) (by omega)]; omega
    by_cases w : y = 0
    · subst w
      rw [lX1_divisor_15, if_neg g, if_pos z6z, Nat.gcd_zero_right]
    · have n0 : z6 (y : Int) ≠ 0 := by
        rw [l6_0]
        intro e
        have := (z6eq (by omega) hy (by omega) (by omega)).1 e
        omega
      have hr : ((x % y : Nat) : Int) < 9223372036854775808 := by
        have := Nat.mod_lt x (show 0 < y by omega)
        omega
      rw [lX1_divisor_15, if_neg g, if_neg n0, if_neg n0, z6mod hx hy, gcd_st, l3_1, z3a]
      obtain ⟨n, rfl⟩ : ∃ q, n = q + 1 := ⟨n - 1, by omega⟩
      by_cases w2 : x % y = 0
      · rw [w2, lX1_divisor_15, if_neg g2, if_pos z6z, Nat.gcd_zero_right]
      · have n1 : z6 ((x % y : Nat) : Int) ≠ 0 := by
          rw [l6_0]
          intro e
          have := (z6eq (by omega) hr (by omega) (by omega)).1 e
          omega
        have hq : ((y % (x % y) : Nat) : Int) < 9223372036854775808 := by
          have := Nat.mod_lt y (show 0 < x % y by omega)
          omega
        rw [lX1_divisor_15, if_neg g2, if_neg n1, if_neg n1, z6mod hy hr, gcd_st y, l3_1, z3a]
        exact ih n _ _ _ (by omega) (by omega) hr hq (mod_half h2 w2) (by omega)
theorem gcd3 {a b : Int} (h1 : -9223372036854775807 ≤ a) (h2 : a < 9223372036854775808) (h3 : -9223372036854775807 ≤ b) (h4 : b < 9223372036854775808) : mX1_divisor (z6 a) (z6 b) = some (z6 (Int.gcd a b)) := by
  unfold mX1_divisor
  rw [zabs6 h1 h2, zabs6 h3 h4, l3_0, gcd3_go 63 FU _ _ _ (by omega) (by omega) (by omega) (by omega) (by omega) (by decide)]
  rfl
/-- a fraction in lowest terms: the denominator is greater than 0 -/
def rdT (a b : Int) : Int := if 0 ≤ b then a.tdiv (Int.gcd a b) else a.tdiv (-(Int.gcd a b : Int))
def rdB (a b : Int) : Int := if 0 ≤ b then b.tdiv (Int.gcd a b) else b.tdiv (-(Int.gcd a b : Int))
theorem gcd_le {a b : Int} (hb : b ≠ 0) : (Int.gcd a b : Int) ≤ b.natAbs := by
  have := Nat.gcd_le_right a.natAbs (show 0 < b.natAbs by omega)
  show ((Nat.gcd a.natAbs b.natAbs : Nat) : Int) ≤ _
  omega
theorem gcd_ps {a b : Int} (hb : b ≠ 0) : (0 : Int) < Int.gcd a b := by
  have := Nat.gcd_pos_of_pos_right a.natAbs (show 0 < b.natAbs by omega)
  show (0 : Int) < ((Nat.gcd a.natAbs b.natAbs : Nat) : Int)
  omega
section FRC
variable {a b : Int}
theorem put3 (h1 : -9223372036854775807 ≤ a) (h2 : a < 9223372036854775808) (h3 : -9223372036854775807 ≤ b) (h4 : b < 9223372036854775808) (hb : b ≠ 0) (u v : Int64) : mX1_put u v (z6 a) (z6 b) = some (z6 (rdB a b), z6 (rdT a b)) := by
  have g1 := gcd_le (a := a) hb
  have g2 := gcd_ps (a := a) hb
  unfold mX1_put
  rw [gcd3 h1 h2 h3 h4, Option.bind_some, l6_0]
  have n0 : ¬ z6 (Int.gcd a b : Int) = z6 0 := by
    rw [z6eq (by omega) (by omega) (by omega) (by omega)]
    omega
  have n1 : ¬ -z6 (Int.gcd a b : Int) = z6 0 := by
    rw [z6n, z6eq (by omega) (by omega) (by omega) (by omega)]
    omega
  have n2 : ¬ z6 b = z6 0 := by
    rw [z6eq (by omega) (by omega) (by omega) (by omega)]
    omega
  unfold rdB rdT
  rw [if_neg n2, if_neg n0]
  by_cases w : 0 ≤ b
  · rw [if_pos ((z6le (by omega) (by omega) (by omega) (by omega)).2 w), if_neg n0, if_neg n0, if_pos w, if_pos w, z6d (by omega) (by omega) (by omega) (by omega), z6d (by omega) (by omega) (by omega) (by omega)]
  · rw [if_neg (fun q => w ((z6le (by omega) (by omega) (by omega) (by omega)).1 q)), if_neg n1, if_neg n1, if_neg w, if_neg w, z6n, z6d (by omega) (by omega) (by omega) (by omega), z6d (by omega) (by omega) (by omega) (by omega)]
end FRC
