/-! Int32 and Int64 by whole numbers: z3 and z6; every literal is one. -/
def z3 (z : Int) : Int32 := Int32.ofInt z
def z6 (z : Int) : Int64 := Int64.ofInt z
theorem z3t {z : Int} (h : -2147483648 ≤ z) (h2 : z < 2147483648) : (z3 z).toInt = z := Int32.toInt_ofInt_of_le (by omega) (by omega)
theorem z6t {z : Int} (h : -9223372036854775808 ≤ z) (h2 : z < 9223372036854775808) : (z6 z).toInt = z := Int64.toInt_ofInt_of_le (by omega) (by omega)
theorem z3i (a : Int32) : z3 a.toInt = a := Int32.ofInt_toInt a
theorem z6i (a : Int64) : z6 a.toInt = a := Int64.ofInt_toInt a
theorem l3_0 : (0 : Int32) = z3 0 := rfl
theorem l3_1 : (1 : Int32) = z3 1 := rfl
theorem l3_2 : (2 : Int32) = z3 2 := rfl
theorem l3_3 : (3 : Int32) = z3 3 := rfl
theorem l3_4 : (4 : Int32) = z3 4 := rfl
theorem l3_5 : (5 : Int32) = z3 5 := rfl
theorem l3_8 : (8 : Int32) = z3 8 := rfl
theorem l3_9 : (9 : Int32) = z3 9 := rfl
theorem l3_10 : (10 : Int32) = z3 10 := rfl
theorem l3_12 : (12 : Int32) = z3 12 := rfl
theorem l3_13 : (13 : Int32) = z3 13 := rfl
theorem l3_14 : (14 : Int32) = z3 14 := rfl
theorem l3_18 : (18 : Int32) = z3 18 := rfl
theorem l3_19 : (19 : Int32) = z3 19 := rfl
theorem l3_20 : (20 : Int32) = z3 20 := rfl
theorem l3_24 : (24 : Int32) = z3 24 := rfl
theorem l3_31 : (31 : Int32) = z3 31 := rfl
theorem l3_32 : (32 : Int32) = z3 32 := rfl
theorem l3_33 : (33 : Int32) = z3 33 := rfl
theorem l3_45 : (45 : Int32) = z3 45 := rfl
theorem l3_47 : (47 : Int32) = z3 47 := rfl
theorem l3_48 : (48 : Int32) = z3 48 := rfl
theorem l3_57 : (57 : Int32) = z3 57 := rfl
theorem l3_58 : (58 : Int32) = z3 58 := rfl
theorem l3_59 : (59 : Int32) = z3 59 := rfl
theorem l3_63 : (63 : Int32) = z3 63 := rfl
theorem l3_94 : (94 : Int32) = z3 94 := rfl
theorem l3_97 : (97 : Int32) = z3 97 := rfl
theorem l3_120 : (120 : Int32) = z3 120 := rfl
theorem l3_122 : (122 : Int32) = z3 122 := rfl
theorem l3_180 : (180 : Int32) = z3 180 := rfl
theorem l3_200 : (200 : Int32) = z3 200 := rfl
theorem l3_255 : (255 : Int32) = z3 255 := rfl
theorem l3_320 : (320 : Int32) = z3 320 := rfl
theorem l3_400 : (400 : Int32) = z3 400 := rfl
theorem l6_0 : (0 : Int64) = z6 0 := rfl
theorem l6_1 : (1 : Int64) = z6 1 := rfl
theorem l6_2 : (2 : Int64) = z6 2 := rfl
theorem l6_10 : (10 : Int64) = z6 10 := rfl
theorem l6_48 : (48 : Int64) = z6 48 := rfl
theorem z3a (a b : Int) : z3 a + z3 b = z3 (a + b) := (Int32.ofInt_add a b).symm
theorem z3s (a b : Int) : z3 a - z3 b = z3 (a - b) := (Int32.ofInt_sub a b).symm
theorem z3m (a b : Int) : z3 a * z3 b = z3 (a * b) := (Int32.ofInt_mul a b).symm
theorem z3n (a : Int) : -z3 a = z3 (-a) := (Int32.ofInt_neg a).symm
theorem z6a (a b : Int) : z6 a + z6 b = z6 (a + b) := (Int64.ofInt_add a b).symm
theorem z6s (a b : Int) : z6 a - z6 b = z6 (a - b) := (Int64.ofInt_sub a b).symm
theorem z6m (a b : Int) : z6 a * z6 b = z6 (a * b) := (Int64.ofInt_mul a b).symm
theorem z6n (a : Int) : -z6 a = z6 (-a) := (Int64.ofInt_neg a).symm
theorem z3le {a b : Int} (h1 : -2147483648 ≤ a) (h2 : a < 2147483648) (h3 : -2147483648 ≤ b) (h4 : b < 2147483648) : (z3 a ≤ z3 b) ↔ a ≤ b := by
  rw [Int32.le_iff_toInt_le, z3t h1 h2, z3t h3 h4]
theorem z3lt {a b : Int} (h1 : -2147483648 ≤ a) (h2 : a < 2147483648) (h3 : -2147483648 ≤ b) (h4 : b < 2147483648) : (z3 a < z3 b) ↔ a < b := by
  rw [Int32.lt_iff_toInt_lt, z3t h1 h2, z3t h3 h4]
theorem z3eq {a b : Int} (h1 : -2147483648 ≤ a) (h2 : a < 2147483648) (h3 : -2147483648 ≤ b) (h4 : b < 2147483648) : (z3 a = z3 b) ↔ a = b := by
  rw [← Int32.toInt_inj, z3t h1 h2, z3t h3 h4]
theorem z6le {a b : Int} (h1 : -9223372036854775808 ≤ a) (h2 : a < 9223372036854775808) (h3 : -9223372036854775808 ≤ b) (h4 : b < 9223372036854775808) : (z6 a ≤ z6 b) ↔ a ≤ b := by
  rw [Int64.le_iff_toInt_le, z6t h1 h2, z6t h3 h4]
theorem z6lt {a b : Int} (h1 : -9223372036854775808 ≤ a) (h2 : a < 9223372036854775808) (h3 : -9223372036854775808 ≤ b) (h4 : b < 9223372036854775808) : (z6 a < z6 b) ↔ a < b := by
  rw [Int64.lt_iff_toInt_lt, z6t h1 h2, z6t h3 h4]
theorem z6eq {a b : Int} (h1 : -9223372036854775808 ≤ a) (h2 : a < 9223372036854775808) (h3 : -9223372036854775808 ≤ b) (h4 : b < 9223372036854775808) : (z6 a = z6 b) ↔ a = b := by
  rw [← Int64.toInt_inj, z6t h1 h2, z6t h3 h4]
theorem z3nat {a : Int} (h1 : -2147483648 ≤ a) (h2 : a < 2147483648) : Int32.toNatClampNeg (z3 a) = a.toNat := by
  show (z3 a).toInt.toNat = _
  rw [z3t h1 h2]
theorem z364 {a : Int} (h1 : -2147483648 ≤ a) (h2 : a < 2147483648) : Int32.toInt64 (z3 a) = z6 a := by
  apply Int64.toInt_inj.1
  rw [Int32.toInt_toInt64, z3t h1 h2, z6t (by omega) (by omega)]
theorem z3d {a b : Int} (h1 : -2147483647 ≤ a) (h2 : a < 2147483648) (h3 : -2147483648 ≤ b) (h4 : b < 2147483648) : z3 a / z3 b = z3 (a.tdiv b) := by
  have e : z3 a ≠ Int32.minValue := by
    intro w
    have := congrArg Int32.toInt w
    rw [z3t (by omega) h2] at this
    have k : Int32.minValue.toInt = -2147483648 := by decide
    omega
  have := Int32.toInt_div_of_ne_left _ (z3 b) e
  rw [z3t (by omega) h2, z3t h3 h4] at this
  rw [← z3i (z3 a / z3 b), this]
theorem z6d {a b : Int} (h1 : -9223372036854775807 ≤ a) (h2 : a < 9223372036854775808) (h3 : -9223372036854775808 ≤ b) (h4 : b < 9223372036854775808) : z6 a / z6 b = z6 (a.tdiv b) := by
  have e : z6 a ≠ Int64.minValue := by
    intro w
    have := congrArg Int64.toInt w
    rw [z6t (by omega) h2] at this
    have k : Int64.minValue.toInt = -9223372036854775808 := by decide
    omega
  have := Int64.toInt_div_of_ne_left _ (z6 b) e
  rw [z6t (by omega) h2, z6t h3 h4] at this
  rw [← z6i (z6 a / z6 b), this]
theorem zabs6 {a : Int} (h1 : -9223372036854775807 ≤ a) (h2 : a < 9223372036854775808) : mabsl_v (z6 a) = z6 a.natAbs := by
  unfold mabsl_v
  rw [l6_0]
  by_cases h : 0 < a
  · rw [if_pos ((z6lt (by omega) (by omega) (by omega) (by omega)).2 h)]
    congr 1
    omega
  · rw [if_neg (fun w => h ((z6lt (by omega) (by omega) (by omega) (by omega)).1 w)), z6n]
    congr 1
    omega
theorem zabs3 {a : Int} (h1 : -2147483647 ≤ a) (h2 : a < 2147483648) : mabsi_v (z3 a) = z3 a.natAbs := by
  unfold mabsi_v
  rw [l3_0]
  by_cases h : 0 ≤ a
  · rw [if_pos ((z3le (by omega) (by omega) (by omega) (by omega)).2 h)]
    congr 1
    omega
  · rw [if_neg (fun w => h ((z3le (by omega) (by omega) (by omega) (by omega)).1 w)), z3s]
    congr 1
    omega
theorem zmin3 {a b : Int} (h1 : -2147483648 ≤ a) (h2 : a < 2147483648) (h3 : -2147483648 ≤ b) (h4 : b < 2147483648) : mmini_v (z3 a) (z3 b) = z3 (min a b) := by
  unfold mmini_v
  by_cases h : b < a
  · rw [if_pos ((z3lt h3 h4 h1 h2).2 h)]
    congr 1
    omega
  · rw [if_neg (fun w => h ((z3lt h3 h4 h1 h2).1 w))]
    congr 1
    omega
theorem zmax3 {a b : Int} (h1 : -2147483648 ≤ a) (h2 : a < 2147483648) (h3 : -2147483648 ≤ b) (h4 : b < 2147483648) : mmaxi_v (z3 a) (z3 b) = z3 (max a b) := by
  unfold mmaxi_v
  by_cases h : a < b
  · rw [if_pos ((z3lt h1 h2 h3 h4).2 h)]
    congr 1
    omega
  · rw [if_neg (fun w => h ((z3lt h1 h2 h3 h4).1 w))]
    congr 1
    omega
/-- the turns of a loop: m of them, from j on -/
def itz {α : Type} (f : Int → α → α) : Nat → Int → α → α
  | 0, _, a => a
  | m + 1, j, a => itz f m (j + 1) (f j a)
/-- a loop of a model with an invariant runs to its end -/
theorem runz {α β : Type} (L : Nat → Int → α → Option β) (f : Int → α → α) (P : Int → α → Prop) (C : Int) (r : α → β)
    (hs : ∀ (n : Nat) (j : Int) (a : α), j < C → P j a → L (n + 1) j a = L n (j + 1) (f j a) ∧ P (j + 1) (f j a))
    (he : ∀ (n : Nat) (a : α), P C a → L (n + 1) C a = some (r a)) :
    ∀ (m n : Nat) (j : Int) (a : α), j + m = C → m < n → P j a → L n j a = some (r (itz f m j a)) ∧ P C (itz f m j a) := by
  intro m
  induction m with
  | zero =>
    intro n j a h1 h2 h3
    obtain ⟨n, rfl⟩ : ∃ q, n = q + 1 := ⟨n - 1, by omega⟩
    have e : j = C := by omega
    subst e
    exact ⟨he n a h3, h3⟩
  | succ m ih =>
    intro n j a h1 h2 h3
    obtain ⟨n, rfl⟩ : ∃ q, n = q + 1 := ⟨n - 1, by omega⟩
    obtain ⟨e1, e2⟩ := hs n j a (by omega) h3
    rw [e1]
    exact ih n (j + 1) (f j a) (by omega) (by omega) e2
theorem xOfz {xs : Nat → Int32} {j : Int} (h1 : 0 ≤ j) (h2 : j < 5) : mX3_xOf xs (z3 j) = some (xs j.toNat) := by
  unfold mX3_xOf
  simp (disch := omega) only [l3_0, l3_1, l3_2, l3_3, l3_4, l3_5, l3_8, l3_9, l3_10, l3_12, l3_13, l3_14, l3_18, l3_19, l3_20, l3_24, l3_31, l3_32, l3_33, l3_45, l3_47, l3_48, l3_57, l3_58, l3_59, l3_63, l3_94, l3_97, l3_120, l3_122, l3_180, l3_200, l3_255, l3_320, l3_400, z3a, z3s, z3m, z3n, z3le, z3lt, z3eq, z3nat, z364, if_pos, if_neg]
