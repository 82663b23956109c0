/-! Which of two fractions is greater: both sides. -/
theorem xor6 {x y : Int64} (hy : 0 ≤ y.toInt) : 0 ≤ (x ^^^ y) ↔ 0 ≤ x.toInt := by
  have m := BitVec.msb_xor (x := x.toBitVec) (y := y.toBitVec)
  rw [BitVec.msb_eq_toInt, BitVec.msb_eq_toInt, BitVec.msb_eq_toInt] at m
  have hy : ¬ y.toBitVec.toInt < 0 := by
    have : 0 ≤ y.toBitVec.toInt := hy
    omega
  rw [decide_eq_false hy, Bool.xor_false, decide_eq_decide] at m
  rw [Int64.le_iff_toInt_le]
  show (0 : Int) ≤ (x.toBitVec ^^^ y.toBitVec).toInt ↔ 0 ≤ x.toBitVec.toInt
  omega
theorem fdv {a b : Int} (a0 : -9223372036854775807 ≤ a) (a1 : a < 9223372036854775808) (b0 : 0 < b) (b1 : b < 9223372036854775808) : mJ9_floorDiv_f86c9 (z6 a) (z6 b) = some (z6 (a / b)) := by
  have xr := xor6 (x := z6 a) (y := z6 b) (by rw [z6t (by omega) (by omega)]; omega)
  rw [z6t (by omega) (by omega)] at xr
  unfold mJ9_floorDiv_f86c9
  rw [if_neg (fun w => by have := (z6eq (by omega) (by omega) (by omega) (by omega)).1 (Eq.trans w l6_0); omega), z6d a0 a1 (by omega) b1, z6m]
  have te := Int.tdiv_eq_ediv (a := a) (b := b)
  by_cases w : 0 ≤ a
  · rw [if_pos (xr.2 w), te, if_pos (Or.inl w), Int.add_zero]
  · rw [if_neg (fun q => w (xr.1 q))]
    by_cases dv : b ∣ a
    · rw [if_pos (Or.inr dv), Int.add_zero] at te
      rw [if_pos (by rw [te, Int.ediv_mul_cancel dv]), te]
    · rw [if_neg (fun q => q.elim w dv), Int.sign_eq_one_of_pos b0] at te
      have em := Int.mul_ediv_add_emod a b
      have m0 := Int.emod_nonneg a (show b ≠ 0 by omega)
      have m1 := Int.emod_lt_of_pos a b0
      have m2 : a % b ≠ 0 := fun q => dv (Int.dvd_of_emod_eq_zero q)
      have e : a.tdiv b * b = a - a % b + b := by
        rw [te, Int.add_mul, Int.one_mul, Int.mul_comm]
        omega
      rw [e, if_neg (fun q => by have := (z6eq (by omega) (by omega) (by omega) (by omega)).1 q; omega), te, l6_1, z6s, show a / b + 1 - 1 = a / b by omega]
theorem emh {y r : Int} {k : Nat} (r0 : 0 < r) (ry : r < y) (h : y < 2 * k) : y % r < k := by
  have h1 : 1 ≤ y / r := Int.le_ediv_of_mul_le r0 (by omega)
  have em := Int.mul_ediv_add_emod y r
  have h2 : r * 1 ≤ r * (y / r) := Int.mul_le_mul_of_nonneg_left h1 (by omega)
  have m1 := Int.emod_lt_of_pos y r0
  omega
def grF (r : Nat × Int64 × Int64 × Int64) : Option Int32 := if r.1 = 0 then if r.2.1 ≤ r.2.2.1 then some 0 else some 1 else if r.1 = 1 then if r.2.2.2 ≤ 0 then some 0 else some 1 else some 0
theorem grS {a b c d : Int} (a0 : -9223372036854775807 ≤ a) (a1 : a < 9223372036854775808) (b0 : 0 < b) (b1 : b < 9223372036854775808) (c0 : -9223372036854775807 ≤ c) (c1 : c < 9223372036854775808) (d0 : 0 < d) (d1 : d < 9223372036854775808) (n : Nat) :
    (lX7_isGreater_14 (n + 1) (z6 a) (z6 b) (z6 c) (z6 d)).bind grF = some (if c * b < a * d then 1 else 0) ∨
    (0 < c % d ∧ 0 < a % b ∧ lX7_isGreater_14 (n + 1) (z6 a) (z6 b) (z6 c) (z6 d) = lX7_isGreater_14 n (z6 d) (z6 (c % d)) (z6 b) (z6 (a % b)) ∧ (c * b < a * d ↔ b * (c % d) < d * (a % b))) := by
  have ea := Int.mul_ediv_add_emod a b
  have ec := Int.mul_ediv_add_emod c d
  have ma0 := Int.emod_nonneg a (show b ≠ 0 by omega)
  have ma1 := Int.emod_lt_of_pos a b0
  have mc0 := Int.emod_nonneg c (show d ≠ 0 by omega)
  have mc1 := Int.emod_lt_of_pos c d0
  have bq : ∀ x y : Int, 0 < y → -9223372036854775807 ≤ x → x < 9223372036854775808 → -9223372036854775807 ≤ x / y ∧ x / y < 9223372036854775808 := fun x y y0 x0 x1 => by
    have t := Int.natAbs_ediv_le_natAbs x y
    omega
  obtain ⟨qa0, qa1⟩ := bq a b b0 a0 a1
  obtain ⟨qc0, qc1⟩ := bq c d d0 c0 c1
  have bd : 0 < b * d := Int.mul_pos b0 d0
  have rab : a - a / b * b = a % b := by rw [Int.mul_comm]; omega
  have rcd : c - c / d * d = c % d := by rw [Int.mul_comm]; omega
  have id : a * d - c * b = (a / b - c / d) * (b * d) + (a % b) * d - (c % d) * b := by grind
  have p1 : 0 ≤ (a % b) * d := Int.mul_nonneg ma0 (by omega)
  have p2 : 0 ≤ (c % d) * b := Int.mul_nonneg mc0 (by omega)
  have p3 : (a % b) * d < b * d := Int.mul_lt_mul_of_pos_right ma1 d0
  have p4 : (c % d) * b < d * b := Int.mul_lt_mul_of_pos_right mc1 b0
  rw [Int.mul_comm d b] at p4
  rw [lX7_isGreater_14, fdv a0 a1 b0 b1, Option.bind_some, fdv c0 c1 d0 d1, Option.bind_some]
  by_cases q : a / b = c / d
  · rw [if_pos (by rw [q])]
    rw [z6m, z6m, z6s, z6s, rab, rcd]
    rw [q, Int.sub_self, Int.zero_mul] at id
    by_cases rc : c % d = 0
    · left
      rw [rc] at id p2 p4
      rw [if_pos (by rw [rc]; rfl), Option.bind_some]
      unfold grF
      rw [if_neg (show ¬ (1 : Nat) = 0 by decide), if_pos rfl]
      by_cases ra : a % b = 0
      · rw [ra] at id
        rw [if_pos (by rw [ra]; exact (z6le (by omega) (by omega) (by omega) (by omega)).2 (Int.le_refl 0)), if_neg (by omega)]
      · have : 0 < (a % b) * d := Int.mul_pos (by omega) d0
        rw [if_neg (fun w => by have := (z6le (by omega) (by omega) (by omega) (by omega)).1 (l6_0 ▸ w); omega), if_pos (by omega)]
    · rw [if_neg (fun w => rc ((z6eq (by omega) (by omega) (by omega) (by omega)).1 (Eq.trans w l6_0)))]
      by_cases ra : a % b = 0
      · left
        have : 0 < (c % d) * b := Int.mul_pos (by omega) b0
        rw [ra] at id
        rw [if_pos (by rw [ra]; rfl), Option.bind_some]
        unfold grF
        rw [if_neg (show ¬ (2 : Nat) = 0 by decide), if_neg (show ¬ (2 : Nat) = 1 by decide), if_neg (by omega)]
      · right
        rw [if_neg (fun w => ra ((z6eq (by omega) (by omega) (by omega) (by omega)).1 (Eq.trans w l6_0)))]
        refine ⟨by omega, by omega, rfl, ?_⟩
        rw [Int.mul_comm b (c % d), Int.mul_comm d (a % b)]
        omega
  · left
    rw [if_neg (fun w => q ((z6eq (by omega) (by omega) (by omega) (by omega)).1 w)), Option.bind_some]
    unfold grF
    rw [if_pos rfl]
    by_cases w : a / b ≤ c / d
    · have h : 0 ≤ (c / d - a / b - 1) * (b * d) := Int.mul_nonneg (by omega) (by omega)
      have e : (c / d - a / b - 1) * (b * d) = -((a / b - c / d) * (b * d)) - b * d := by grind
      rw [if_pos ((z6le (by omega) (by omega) (by omega) (by omega)).2 w), if_neg (by omega)]
    · have h : 0 ≤ (a / b - c / d - 1) * (b * d) := Int.mul_nonneg (by omega) (by omega)
      have e : (a / b - c / d - 1) * (b * d) = (a / b - c / d) * (b * d) - b * d := by grind
      rw [if_neg (fun z => w ((z6le (by omega) (by omega) (by omega) (by omega)).1 z)), if_pos (by omega)]
theorem grt_go : ∀ (t n : Nat) (a b c d : Int), -9223372036854775807 ≤ a → a < 9223372036854775808 → 0 < b → b < 9223372036854775808 → -9223372036854775807 ≤ c → c < 9223372036854775808 → 0 < d → d < 9223372036854775808 → b < 2 ^ t → 2 * t + 1 ≤ n → (lX7_isGreater_14 n (z6 a) (z6 b) (z6 c) (z6 d)).bind grF = some (if c * b < a * d then 1 else 0) := by
  intro t
  induction t with
  | zero =>
    intro n a b c d a0 a1 b0 b1 c0 c1 d0 d1 h hn
    have : (2 : Int) ^ 0 = 1 := rfl
    omega
  | succ t ih =>
    intro n a b c d a0 a1 b0 b1 c0 c1 d0 d1 h hn
    obtain ⟨n, rfl⟩ : ∃ q, n = q + 2 := ⟨n - 2, by omega⟩
    have ma1 := Int.emod_lt_of_pos a b0
    have mc1 := Int.emod_lt_of_pos c d0
    rcases grS a0 a1 b0 b1 c0 c1 d0 d1 (n + 1) with e | ⟨r1, r2, e, i1⟩
    · exact e
    · have m1 := Int.emod_lt_of_pos d r1
      have m2 := Int.emod_lt_of_pos b r2
      have m3 := Int.emod_nonneg b (show a % b ≠ 0 by omega)
      have hp : (2 : Int) ^ (t + 1) = 2 * ((2 ^ t : Nat) : Int) := by
        rw [Int.pow_succ, Int.mul_comm]
        norm_cast
      have hk := emh r2 ma1 (k := 2 ^ t) (by rw [← hp]; exact h)
      rw [e]
      rcases grS (a := d) (b := c % d) (c := b) (d := a % b) (by omega) (by omega) r1 (by omega) (by omega) (by omega) r2 (by omega) n with e2 | ⟨r3, r4, e2, i2⟩
      · rw [e2]
        by_cases w : c * b < a * d
        · rw [if_pos w, if_pos (i1.1 w)]
        · rw [if_neg w, if_neg (fun z => w (i1.2 z))]
      · rw [e2, ih n _ _ _ _ (by omega) (by omega) r3 (by omega) (by omega) (by omega) r4 (by omega) (by
          have : ((2 ^ t : Nat) : Int) = (2 : Int) ^ t := by norm_cast
          omega) (by omega)]
        by_cases w : c * b < a * d
        · rw [if_pos w, if_pos (i2.1 (i1.1 w))]
        · rw [if_neg w, if_neg (fun z => w (i1.2 (i2.2 z)))]
theorem grt7 {a b c d : Int} (a0 : -9223372036854775807 ≤ a) (a1 : a < 9223372036854775808) (b0 : 0 < b) (b1 : b < 9223372036854775808) (c0 : -9223372036854775807 ≤ c) (c1 : c < 9223372036854775808) (d0 : 0 < d) (d1 : d < 9223372036854775808) : mX7_isGreater (z6 a) (z6 b) (z6 c) (z6 d) = some (if c * b < a * d then 1 else 0) := by
  have h := grt_go 63 FU a b c d a0 a1 b0 b1 c0 c1 d0 d1 (by omega) (by decide)
  exact h
/-- the class multiplies across -/
theorem cmp3 {a b c d : Int} (h1 : -9223372036854775808 ≤ a * d) (h2 : a * d < 9223372036854775808) (h3 : -9223372036854775808 ≤ c * b) (h4 : c * b < 9223372036854775808) : mX1_compareWith (z6 b) (z6 a) (z6 d) (z6 c) = some (if c * b < a * d then 1 else if a * d < c * b then -1 else 0) := by
  unfold mX1_compareWith mJ13_compare_74951
  rw [z6m, z6m]
  by_cases w : c * b ≤ a * d
  · rw [if_pos ((z6le h3 h4 h1 h2).2 w)]
    by_cases e : a * d = c * b
    · rw [if_pos (by rw [e]), if_neg (by omega), if_neg (by omega)]
      rfl
    · rw [if_neg (fun z => e ((z6eq h1 h2 h3 h4).1 z)), if_pos (by omega)]
      rfl
  · rw [if_neg (fun z => w ((z6le h3 h4 h1 h2).1 z)), if_neg (by omega), if_pos (by omega)]
    rfl
