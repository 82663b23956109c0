/-! Bounds of top and bottom of every value: their cross product stays within Int64. -/
theorem num_w4 : ∀ C : Nat, C < 5 → ∀ k : Nat, k < C → pdz (fun j => ((if j = (k : Int) then 1 else 21 : Nat) : Int)) C 0 ≤ 9261 := by decide
theorem num_w3 : ∀ C : Nat, C < 4 → ∀ k : Nat, k < C → pdz (fun j => ((if j = (k : Int) then 1 else 21 : Nat) : Int)) C 0 ≤ 441 := by decide
theorem num_s4 : ∀ C : Nat, C < 5 → ∀ k : Nat, k < C → ∀ b : Nat, b < C → b ≠ k → pdz (fun j => ((if j = (k : Int) then 1 else if j = (b : Int) then 1 else 21 : Nat) : Int)) C 0 ≤ 441 := by decide
theorem num_s3 : ∀ C : Nat, C < 4 → ∀ k : Nat, k < C → ∀ b : Nat, b < C → b ≠ k → pdz (fun j => ((if j = (k : Int) then 1 else if j = (b : Int) then 1 else 21 : Nat) : Int)) C 0 ≤ 21 := by decide
def woN (C : Int) : Nat := if C = 5 then 194481 else if C = 4 then 9261 else 441
section VBD
variable {X Y : Int → Int} {C k x : Int}
theorem wo_b (h0 : 0 ≤ C) (h5 : C ≤ 5) (hr : Rz C (-9) 9 X) (k0 : 0 ≤ k) (k1 : k < C) (x0 : -12 ≤ x) (x1 : x ≤ 12) : (woz X k x C.toNat).natAbs ≤ woN C ∧ (swz X k x C.toNat).natAbs ≤ woN C := by
  have a : ((woz X k x C.toNat).natAbs : Int) ≤ pdz (fun j => ((if j = k then 1 else 21 : Nat) : Int)) C.toNat 0 := by
    unfold woz
    apply pdz_bb
    intro j h1 h2
    have := hr j (by omega) (by omega)
    split <;> omega
  have sw : ∀ B : Nat, (∀ b : Nat, b < C.toNat → b ≠ k.toNat → pdz (fun j => ((if j = (k.toNat : Int) then 1 else if j = (b : Int) then 1 else 21 : Nat) : Int)) C.toNat 0 ≤ B) → (swz X k x C.toNat).natAbs ≤ C.toNat * B := fun B hB => by
    unfold swz
    refine smz_b (B := B) _ _ ?_
    intro b b0 b1
    by_cases e : b = k
    · rw [if_pos e, Int.zero_mul]
      exact Nat.zero_le _
    · rw [if_neg e, Int.one_mul]
      have a : ((pdz (fun j => if j = k then 1 else if j = b then 1 else x - X j) C.toNat 0).natAbs : Int) ≤ pdz (fun j => ((if j = k then 1 else if j = b then 1 else 21 : Nat) : Int)) C.toNat 0 := by
        apply pdz_bb
        intro j h1 h2
        have := hr j (by omega) (by omega)
        split
        · omega
        · split <;> omega
      have c := hB b.toNat (by omega) (by omega)
      rw [show (k.toNat : Int) = k by omega, show (b.toNat : Int) = b by omega] at c
      omega
  unfold woN
  by_cases c5 : C = 5
  · rw [if_pos c5]
    have b := num_w C.toNat (by omega) k.toNat (by omega)
    rw [show (k.toNat : Int) = k by omega] at b
    have s := sw 9261 (fun b b0 b1 => num_s C.toNat (by omega) k.toNat (by omega) b b0 b1)
    have : C.toNat * 9261 ≤ 5 * 9261 := Nat.mul_le_mul_right _ (by omega)
    omega
  · rw [if_neg c5]
    by_cases c4 : C = 4
    · rw [if_pos c4]
      have b := num_w4 C.toNat (by omega) k.toNat (by omega)
      rw [show (k.toNat : Int) = k by omega] at b
      have s := sw 441 (fun b b0 b1 => num_s4 C.toNat (by omega) k.toNat (by omega) b b0 b1)
      have : C.toNat * 441 ≤ 5 * 441 := Nat.mul_le_mul_right _ (by omega)
      omega
    · rw [if_neg c4]
      have b := num_w3 C.toNat (by omega) k.toNat (by omega)
      rw [show (k.toNat : Int) = k by omega] at b
      have s := sw 21 (fun b b0 b1 => num_s3 C.toNat (by omega) k.toNat (by omega) b b0 b1)
      have : C.toNat * 21 ≤ 5 * 21 := Nat.mul_le_mul_right _ (by omega)
      omega
def nBz (C m d : Int) : Nat := 20 * woN C * swB C m d
def dBz (C m d : Int) : Nat := if m ≠ 2 ∧ C = 5 ∧ (winz 5 m d = 4 ∨ winz 5 m d = 3) then 24504480 else if m ≠ 2 ∧ C = 5 ∧ winz 5 m d = 2 then 60060 * 819 else woN C * swB C m d
theorem nd_ok {m d : Int} (h0 : 0 ≤ C) (h5 : C ≤ 5) (m0 : 0 ≤ m) (m1 : m ≤ 2) (d0 : 0 ≤ d) (d1 : d ≤ 4) : nBz C m d * dBz C m d < 9223372036854775808 := by
  have c : C = 0 ∨ C = 1 ∨ C = 2 ∨ C = 3 ∨ C = 4 ∨ C = 5 := by omega
  have mm : m = 0 ∨ m = 1 ∨ m = 2 := by omega
  have dd : d = 0 ∨ d = 1 ∨ d = 2 ∨ d = 3 ∨ d = 4 := by omega
  rcases c with rfl | rfl | rfl | rfl | rfl | rfl <;> rcases mm with rfl | rfl | rfl <;> rcases dd with rfl | rfl | rfl | rfl | rfl <;> decide
theorem nm_bz {wt : Int → Int} {B : Nat} (h0 : 0 ≤ C) (h5 : C ≤ 5) (hr : Rz C (-9) 9 X) (hry : Rz C (-20) 20 Y) (x0 : -12 ≤ x) (x1 : x ≤ 12) (hB : wsz C wt ≤ B) :
    (nmv C X Y wt x 0).natAbs ≤ 20 * woN C * B ∧ (smv C X Y wt x 0).natAbs ≤ 20 * woN C * B ∧ (nmv C X Y wt x 1).natAbs ≤ woN C * B ∧ (smv C X Y wt x 1).natAbs ≤ woN C * B := by
  have w := fun k (k0 : 0 ≤ k) (k1 : k < C) => wo_b (X := X) h0 h5 hr k0 k1 x0 x1
  have fin : ∀ (F : Int → Int) (A : Nat), (∀ k, 0 ≤ k → k < C → (F k).natAbs ≤ A) → (smz (fun k => wt k * F k) C.toNat 0).natAbs ≤ A * B := fun F A hF => by
    have h := smz_wb (wt := wt) hF
    have h2 : (A : Int) * wsz C wt ≤ (A : Int) * B := Int.mul_le_mul_of_nonneg_left hB (by omega)
    have h3 : ((A * B : Nat) : Int) = (A : Int) * B := Int.natCast_mul _ _
    omega
  unfold nmv smv
  rw [Tz1, Tz0]
  unfold plv dlv
  refine ⟨?_, ?_, fin _ _ (fun k k0 k1 => (w k k0 k1).1), fin _ _ (fun k k0 k1 => (w k k0 k1).2)⟩
  · rw [smz_c (g := fun k => wt k * (Y k * woz X k x C.toNat)) _ _ (fun i _ _ => Int.mul_assoc _ _ _)]
    exact fin _ _ (fun k k0 k1 => natAbs_mul_le (by have := hry k k0 k1; omega) (w k k0 k1).1)
  · rw [smz_c (g := fun k => wt k * (Y k * swz X k x C.toNat)) _ _ (fun i _ _ => Int.mul_assoc _ _ _)]
    exact fin _ _ (fun k k0 k1 => natAbs_mul_le (by have := hry k k0 k1; omega) (w k k0 k1).2)
theorem zoz_b (hi : Inj 5 X) (hr : Rz 5 (-9) 9 X) (p : Int) (p0 : 0 ≤ p) (p1 : p < 5) : -9 ≤ zoz 5 X p ∧ zoz 5 X p ≤ 9 := by
  have a := ivz_s hi p0 p1
  exact hr _ a.1 a.2.1
theorem q_le {N g S R v A : Int} (hg : g ≠ 0) (e : N * g = S * R) (hS : S.natAbs ≤ v.natAbs * g.natAbs) (hR : R.natAbs ≤ A.natAbs) : N.natAbs ≤ v.natAbs * A.natAbs := by
  have h1 : N.natAbs * g.natAbs = S.natAbs * R.natAbs := by rw [← Int.natAbs_mul, e, Int.natAbs_mul]
  have h2 : S.natAbs * R.natAbs ≤ v.natAbs * g.natAbs * A.natAbs := Nat.mul_le_mul hS hR
  have h3 : v.natAbs * g.natAbs * A.natAbs = v.natAbs * A.natAbs * g.natAbs := by rw [Nat.mul_assoc, Nat.mul_comm g.natAbs, Nat.mul_assoc]
  have h4 : N.natAbs * g.natAbs ≤ v.natAbs * A.natAbs * g.natAbs := by omega
  exact Nat.le_of_mul_le_mul_right h4 (by omega)
end VBD
theorem den_b {a : AZ} (hO : OkZ a) {x : Int} (x0 : -12 ≤ x) (x1 : x ≤ 12) : (nmv (zC a) (zX a) (zY a) (zw a) x 1).natAbs ≤ dBz (zC a) (zM a) (zD a) ∧ (smv (zC a) (zX a) (zY a) (zw a) x 1).natAbs ≤ dBz (zC a) (zM a) (zD a) := by
  have hs := wsz_all hO
  obtain ⟨h0, h5, m0, m1, d0, d1, hr, hry, hrw, hi⟩ := hO
  obtain ⟨-, -, n3, n4⟩ := nm_bz (Y := zY a) h0 h5 hr hry x0 x1 hs
  unfold dBz
  by_cases c1 : zM a ≠ 2 ∧ zC a = 5 ∧ (winz 5 (zM a) (zD a) = 4 ∨ winz 5 (zM a) (zD a) = 3)
  · rw [if_pos c1]
    obtain ⟨e2, e5, ew⟩ := c1
    revert hr hi
    show Rz (zC a) (-9) 9 (zX a) → Inj (zC a) (zX a) → (nmv (zC a) (zX a) (zY a) (wtz (zC a) (zM a) (zD a) (zX a) (zW a)) x 1).natAbs ≤ _ ∧ (smv (zC a) (zX a) (zY a) (wtz (zC a) (zM a) (zD a) (zX a) (zW a)) x 1).natAbs ≤ _
    rw [e5]
    intro hr hi
    have W := rwz_w (C := 5) (m := zM a) (d := zD a) (X := zX a) (W := zW a) e2
    rcases ew with ew | ew
    · rw [ew] at W
      obtain ⟨g0, -, -, vb⟩ := five_4 (m := zM a) (d0 := zD a) (X := zX a) (W := zW a) hi hr (fun k _ _ => W k)
      obtain ⟨q1, q2⟩ := den5 (w := 4) (Or.inl rfl) hi hr (fun k _ _ => W k) (zY a) x
      exact ⟨q_le (v := 24504480) (A := 1) g0 q1 vb (Nat.le_refl _), q_le (v := 24504480) (A := 1) g0 q2 vb (Nat.zero_le _)⟩
    · rw [ew] at W
      obtain ⟨g0, -, -, vb⟩ := five_3 (m := zM a) (d0 := zD a) (X := zX a) (W := zW a) hi hr (fun k _ _ => W k)
      obtain ⟨q1, q2⟩ := den5 (w := 3) (Or.inr (Or.inl rfl)) hi hr (fun k _ _ => W k) (zY a) x
      have f1 : spz (zX a) 0 5 * onW 3 (zoz 5 (zX a)) x = spz (zX a) 0 5 * (zoz 5 (zX a) 4 - zoz 5 (zX a) 0) * -1 := by
        show spz (zX a) 0 5 * (zoz 5 (zX a) 0 - zoz 5 (zX a) 4) = _
        grind
      have f2 : spz (zX a) 0 5 * onD 3 (zoz 5 (zX a)) x = spz (zX a) 0 5 * (zoz 5 (zX a) 4 - zoz 5 (zX a) 0) * 0 := by
        show spz (zX a) 0 5 * 0 = _
        rw [Int.mul_zero, Int.mul_zero]
      rw [f1] at q1
      rw [f2] at q2
      exact ⟨q_le (v := 24504480) (A := 1) g0 q1 vb (Nat.le_refl _), q_le (v := 24504480) (A := 1) g0 q2 vb (Nat.zero_le _)⟩
  · rw [if_neg c1]
    by_cases c2 : zM a ≠ 2 ∧ zC a = 5 ∧ winz 5 (zM a) (zD a) = 2
    · rw [if_pos c2]
      obtain ⟨e2, e5, ew⟩ := c2
      revert hr hi
      show Rz (zC a) (-9) 9 (zX a) → Inj (zC a) (zX a) → (nmv (zC a) (zX a) (zY a) (wtz (zC a) (zM a) (zD a) (zX a) (zW a)) x 1).natAbs ≤ _ ∧ (smv (zC a) (zX a) (zY a) (wtz (zC a) (zM a) (zD a) (zX a) (zW a)) x 1).natAbs ≤ _
      rw [e5]
      intro hr hi
      have W := rwz_w (C := 5) (m := zM a) (d := zD a) (X := zX a) (W := zW a) e2
      rw [ew] at W
      obtain ⟨g0, -, -, vb⟩ := five_2 (m := zM a) (d0 := zD a) (X := zX a) (W := zW a) hi hr (fun k _ _ => W k)
      obtain ⟨q1, q2⟩ := den5 (w := 2) (Or.inr (Or.inr rfl)) hi hr (fun k _ _ => W k) (zY a) x
      have z0 := zoz_b hi hr 0 (by omega) (by omega)
      have z1 := zoz_b hi hr 1 (by omega) (by omega)
      have z3' := zoz_b hi hr 3 (by omega) (by omega)
      have z4 := zoz_b hi hr 4 (by omega) (by omega)
      have r1 : (onW 2 (zoz 5 (zX a)) x).natAbs ≤ (819 : Int).natAbs := by
        have e : onW 2 (zoz 5 (zX a)) x = (zoz 5 (zX a) 0 - zoz 5 (zX a) 3) * (x - zoz 5 (zX a) 4) + (x - zoz 5 (zX a) 0) * (x - zoz 5 (zX a) 1) := by
          show (x - zoz 5 (zX a) 3) * (x - zoz 5 (zX a) 4) - (x - zoz 5 (zX a) 0) * (x - zoz 5 (zX a) 4) + (x - zoz 5 (zX a) 0) * (x - zoz 5 (zX a) 1) = _
          grind
        have p1 : ((zoz 5 (zX a) 0 - zoz 5 (zX a) 3) * (x - zoz 5 (zX a) 4)).natAbs ≤ 18 * 21 := natAbs_mul_le (by omega) (by omega)
        have p2 : ((x - zoz 5 (zX a) 0) * (x - zoz 5 (zX a) 1)).natAbs ≤ 21 * 21 := natAbs_mul_le (by omega) (by omega)
        rw [e]
        omega
      have r2 : (onD 2 (zoz 5 (zX a)) x).natAbs ≤ (819 : Int).natAbs := by
        show (2 * x - zoz 5 (zX a) 3 - zoz 5 (zX a) 1).natAbs ≤ _
        omega
      exact ⟨q_le (v := 60060) (A := 819) g0 q1 vb r1, q_le (v := 60060) (A := 819) g0 q2 vb r2⟩
    · rw [if_neg c2]
      exact ⟨n3, n4⟩
/-- top and bottom of a value -/
theorem vtB {a : AZ} (hO : OkZ a) {x : Int} (x0 : -12 ≤ x) (x1 : x ≤ 12) (hk : kiz (zC a) (zX a) (zY a) (zw a) x ≤ 1) : (vT (zC a) (zX a) (zY a) (zw a) x).natAbs ≤ nBz (zC a) (zM a) (zD a) ∧ (vB (zC a) (zX a) (zY a) (zw a) x).natAbs ≤ dBz (zC a) (zM a) (zD a) ∧ 0 < vB (zC a) (zX a) (zY a) (zw a) x := by
  obtain ⟨b1, b2⟩ := den_b hO x0 x1
  have hs := wsz_all hO
  obtain ⟨h0, h5, m0, m1, d0, d1, hr, hry, hrw, hi⟩ := hO
  obtain ⟨n1, n2, -, -⟩ := nm_bz (Y := zY a) h0 h5 hr hry x0 x1 hs
  unfold vT vB nBz
  by_cases w : nmv (zC a) (zX a) (zY a) (zw a) x 1 = 0
  · rw [if_pos w, if_pos w]
    have s0 : smv (zC a) (zX a) (zY a) (zw a) x 1 ≠ 0 := by
      rcases kiz_c (zC a) (zX a) (zY a) (zw a) x with q | q | q | q
      · exact absurd w q.2
      · exact q.2.2
      · omega
      · omega
    have r := rd_b (a := smv (zC a) (zX a) (zY a) (zw a) x 0) s0
    exact ⟨Nat.le_trans r.1 n2, Nat.le_trans r.2.1 b2, r.2.2⟩
  · rw [if_neg w, if_neg w]
    have r := rd_b (a := nmv (zC a) (zX a) (zY a) (zw a) x 0) w
    exact ⟨Nat.le_trans r.1 n1, Nat.le_trans r.2.1 b1, r.2.2⟩
/-- two values of states with the same number of points, mode and degree: across -/
theorem crossB {a b : AZ} (hO : OkZ a) (hP : OkZ b) (e1 : zC b = zC a) (e2 : zM b = zM a) (e3 : zD b = zD a) {x y : Int} (x0 : -12 ≤ x) (x1 : x ≤ 12) (y0 : -12 ≤ y) (y1 : y ≤ 12) (hk : kiz (zC a) (zX a) (zY a) (zw a) x ≤ 1) (hl : kiz (zC b) (zX b) (zY b) (zw b) y ≤ 1) :
    (vT (zC a) (zX a) (zY a) (zw a) x * vB (zC b) (zX b) (zY b) (zw b) y).natAbs < 9223372036854775808 := by
  obtain ⟨t1, -, -⟩ := vtB hO x0 x1 hk
  obtain ⟨-, t2, -⟩ := vtB hP y0 y1 hl
  rw [e1, e2, e3] at t2
  obtain ⟨h0, h5, m0, m1, d0, d1, -⟩ := hO
  have n := nd_ok h0 h5 m0 m1 d0 d1
  have p := natAbs_mul_le t1 t2
  rw [e1]
  omega
