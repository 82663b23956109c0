/-! Bounds of slopes across. -/
theorem oz_w5 : ∀ C : Nat, C < 6 → ∀ k : Nat, k < C → pdz (fun j => ((if j = (k : Int) then 1 else 18 : Nat) : Int)) C 0 ≤ 104976 := by decide
theorem oz_w3 : ∀ C : Nat, C < 4 → ∀ k : Nat, k < C → pdz (fun j => ((if j = (k : Int) then 1 else 18 : Nat) : Int)) C 0 ≤ 324 := by decide
def ozN (C : Int) : Nat := if C ≤ 3 then 324 else 104976
def sBz (C m d : Int) : Nat := 40 * ozN C * swB C m d
def sDz (C m d : Int) : Nat := if m ≠ 2 ∧ C = 5 ∧ (winz 5 m d = 4 ∨ winz 5 m d = 3) then 24504480 else if m ≠ 2 ∧ C = 5 ∧ winz 5 m d = 2 then 60060 * 819 else ozN C * swB C m d
theorem sd_ok {C m d : Int} (h0 : 0 ≤ C) (h5 : C ≤ 5) (m0 : 0 ≤ m) (m1 : m ≤ 2) (d0 : 0 ≤ d) (d1 : d ≤ 4) : sBz C m d * sDz C m d < 9223372036854775808 := by
  have c : C = 0 ∨ C = 1 ∨ C = 2 ∨ C = 3 ∨ C = 4 ∨ C = 5 := by omega
  have mm : m = 0 ∨ m = 1 ∨ m = 2 := by omega
  have dd : d = 0 ∨ d = 1 ∨ d = 2 ∨ d = 3 ∨ d = 4 := by omega
  rcases c with rfl | rfl | rfl | rfl | rfl | rfl <;> rcases mm with rfl | rfl | rfl <;> rcases dd with rfl | rfl | rfl | rfl | rfl <;> decide
theorem ozz_b2 {C k : Int} {X : Int → Int} (h0 : 0 ≤ C) (h5 : C ≤ 5) (hr : Rz C (-9) 9 X) (k0 : 0 ≤ k) (k1 : k < C) : (ozz C X k).natAbs ≤ ozN C := by
  have a : ((ozz C X k).natAbs : Int) ≤ pdz (fun j => ((if j = k then 1 else 18 : Nat) : Int)) C.toNat 0 := by
    unfold ozz
    apply pdz_bb
    intro j h1 h2
    have := hr j (by omega) (by omega)
    have := hr k (by omega) (by omega)
    split <;> omega
  unfold ozN
  by_cases c : C ≤ 3
  · rw [if_pos c]
    have b := oz_w3 C.toNat (by omega) k.toNat (by omega)
    rw [show (k.toNat : Int) = k by omega] at b
    omega
  · rw [if_neg c]
    have b := oz_w5 C.toNat (by omega) k.toNat (by omega)
    rw [show (k.toNat : Int) = k by omega] at b
    omega
noncomputable def sNz (a : AZ) (k : Int) : Int := smz (ozt (zC a) (zX a) (zw a) (fun j => zY a j - zY a k) k) (zC a).toNat 0
noncomputable def sMz (a : AZ) (k : Int) : Int := zw a k * ozz (zC a) (zX a) k
theorem sN_b {a : AZ} (hO : OkZ a) {k : Int} (k0 : 0 ≤ k) (k1 : k < zC a) : (sNz a k).natAbs ≤ sBz (zC a) (zM a) (zD a) := by
  have hs := wsz_all hO
  obtain ⟨h0, h5, m0, m1, d0, d1, hr, hry, hrw, hi⟩ := hO
  have ob := ozz_b2 h0 h5 hr k0 k1
  have e : sNz a k = smz (fun j => zw a j * (if j = k then 0 else (zY a j - zY a k) * (ozz (zC a) (zX a) k).tdiv (zX a k - zX a j))) (zC a).toNat 0 := by
    unfold sNz
    refine smz_c _ _ (fun j _ _ => ?_)
    unfold ozt
    by_cases c : j = k
    · rw [if_pos c, if_pos c, Int.mul_zero]
    · rw [if_neg c, if_neg c, Int.mul_assoc]
  have h := smz_wb (C := zC a) (wt := zw a) (F := fun j => if j = k then 0 else (zY a j - zY a k) * (ozz (zC a) (zX a) k).tdiv (zX a k - zX a j)) (B := 40 * ozN (zC a)) (fun j j0 j1 => by
    show (if j = k then 0 else (zY a j - zY a k) * (ozz (zC a) (zX a) k).tdiv (zX a k - zX a j)).natAbs ≤ _
    by_cases c : j = k
    · rw [if_pos c]
      exact Nat.zero_le _
    · rw [if_neg c]
      have y1 := hry j j0 j1
      have y2 := hry k k0 k1
      exact natAbs_mul_le (by omega) (Nat.le_trans (Int.natAbs_tdiv_le_natAbs _ _) ob))
  rw [← e] at h
  have h2 : ((40 * ozN (zC a) : Nat) : Int) * wsz (zC a) (zw a) ≤ ((40 * ozN (zC a) : Nat) : Int) * (swB (zC a) (zM a) (zD a) : Nat) := Int.mul_le_mul_of_nonneg_left hs (by omega)
  have h3 : ((40 * ozN (zC a) * swB (zC a) (zM a) (zD a) : Nat) : Int) = ((40 * ozN (zC a) : Nat) : Int) * (swB (zC a) (zM a) (zD a) : Nat) := Int.natCast_mul _ _
  unfold sBz
  omega
theorem wt_s {C : Int} {wt : Int → Int} {k : Int} (k0 : 0 ≤ k) (k1 : k < C) : ((wt k).natAbs : Int) ≤ wsz C wt := by
  have e : smz (fun j => if j = k then ((wt j).natAbs : Int) else 0) C.toNat 0 = ((wt k).natAbs : Int) := by
    rw [smz_1 (i := k) C.toNat 0 k0 (by omega) (fun j _ _ c => if_neg c), if_pos rfl]
  unfold wsz
  rw [← e]
  refine smz_le _ _ (fun i _ _ => ?_)
  split <;> omega
theorem sM_b {a : AZ} (hO : OkZ a) {k : Int} (k0 : 0 ≤ k) (k1 : k < zC a) : (sMz a k).natAbs ≤ sDz (zC a) (zM a) (zD a) := by
  have hs := wsz_all hO
  obtain ⟨h0, h5, m0, m1, d0, d1, hr, hry, hrw, hi⟩ := hO
  have ob := ozz_b2 h0 h5 hr k0 k1
  unfold sDz
  by_cases c1 : zM a ≠ 2 ∧ zC a = 5 ∧ (winz 5 (zM a) (zD a) = 4 ∨ winz 5 (zM a) (zD a) = 3)
  · rw [if_pos c1]
    obtain ⟨e2, e5, ew⟩ := c1
    revert hr hi k1
    show k < zC a → Rz (zC a) (-9) 9 (zX a) → Inj (zC a) (zX a) → (wtz (zC a) (zM a) (zD a) (zX a) (zW a) k * ozz (zC a) (zX a) k).natAbs ≤ _
    rw [e5]
    intro k1 hr hi
    have W := rwz_w (C := 5) (m := zM a) (d := zD a) (X := zX a) (W := zW a) e2
    have eq : wtz 5 (zM a) (zD a) (zX a) (zW a) k * ozz 5 (zX a) k * gwz 5 (zM a) (zD a) (zX a) (zW a) 5 = rwz 5 (zM a) (zD a) (zX a) (zW a) k * ozz 5 (zX a) k := by
      rw [← wtz_m (C := 5) k0 k1]
      grind
    rcases ew with ew | ew
    · rw [ew] at W
      obtain ⟨g0, -, -, vb⟩ := five_4 (m := zM a) (d0 := zD a) (X := zX a) (W := zW a) hi hr (fun k _ _ => W k)
      have t := twd_4 hi hr k0 k1
      rw [W k, t] at eq
      exact q_le (v := 24504480) (A := 1) g0 eq vb (Nat.le_refl _)
    · rw [ew] at W
      obtain ⟨g0, -, -, vb⟩ := five_3 (m := zM a) (d0 := zD a) (X := zX a) (W := zW a) hi hr (fun k _ _ => W k)
      have t := twd_3 hi hr k0 k1
      have f1 : spz (zX a) 0 5 * onW 3 (zoz 5 (zX a)) (zX a k) = spz (zX a) 0 5 * (zoz 5 (zX a) 4 - zoz 5 (zX a) 0) * -1 := by
        show spz (zX a) 0 5 * (zoz 5 (zX a) 0 - zoz 5 (zX a) 4) = _
        grind
      rw [W k, t, f1] at eq
      exact q_le (v := 24504480) (A := 1) g0 eq vb (Nat.le_refl _)
  · rw [if_neg c1]
    by_cases c2 : zM a ≠ 2 ∧ zC a = 5 ∧ winz 5 (zM a) (zD a) = 2
    · rw [if_pos c2]
      obtain ⟨e2, e5, ew⟩ := c2
      revert hr hi k1
      show k < zC a → Rz (zC a) (-9) 9 (zX a) → Inj (zC a) (zX a) → (wtz (zC a) (zM a) (zD a) (zX a) (zW a) k * ozz (zC a) (zX a) k).natAbs ≤ _
      rw [e5]
      intro k1 hr hi
      have W := rwz_w (C := 5) (m := zM a) (d := zD a) (X := zX a) (W := zW a) e2
      have eq : wtz 5 (zM a) (zD a) (zX a) (zW a) k * ozz 5 (zX a) k * gwz 5 (zM a) (zD a) (zX a) (zW a) 5 = rwz 5 (zM a) (zD a) (zX a) (zW a) k * ozz 5 (zX a) k := by
        rw [← wtz_m (C := 5) k0 k1]
        grind
      rw [ew] at W
      obtain ⟨g0, -, -, vb⟩ := five_2 (m := zM a) (d0 := zD a) (X := zX a) (W := zW a) hi hr (fun k _ _ => W k)
      have t := twd_2 hi hr k0 k1
      have z0 := zoz_b hi hr 0 (by omega) (by omega)
      have z1 := zoz_b hi hr 1 (by omega) (by omega)
      have z3' := zoz_b hi hr 3 (by omega) (by omega)
      have z4 := zoz_b hi hr 4 (by omega) (by omega)
      have xb := hr k k0 k1
      have r1 : (onW 2 (zoz 5 (zX a)) (zX a k)).natAbs ≤ (819 : Int).natAbs := by
        have e : onW 2 (zoz 5 (zX a)) (zX a k) = (zoz 5 (zX a) 0 - zoz 5 (zX a) 3) * (zX a k - zoz 5 (zX a) 4) + (zX a k - zoz 5 (zX a) 0) * (zX a k - zoz 5 (zX a) 1) := by
          show (zX a k - zoz 5 (zX a) 3) * (zX a k - zoz 5 (zX a) 4) - (zX a k - zoz 5 (zX a) 0) * (zX a k - zoz 5 (zX a) 4) + (zX a k - zoz 5 (zX a) 0) * (zX a k - zoz 5 (zX a) 1) = _
          grind
        have p1 : ((zoz 5 (zX a) 0 - zoz 5 (zX a) 3) * (zX a k - zoz 5 (zX a) 4)).natAbs ≤ 18 * 21 := natAbs_mul_le (by omega) (by omega)
        have p2 : ((zX a k - zoz 5 (zX a) 0) * (zX a k - zoz 5 (zX a) 1)).natAbs ≤ 21 * 21 := natAbs_mul_le (by omega) (by omega)
        rw [e]
        omega
      rw [W k, t] at eq
      exact q_le (v := 60060) (A := 819) g0 eq vb r1
    · rw [if_neg c2]
      have w := wt_s (wt := zw a) k0 k1
      have := natAbs_mul_le (a := ozz (zC a) (zX a) k) (b := zw a k) ob (show (zw a k).natAbs ≤ swB (zC a) (zM a) (zD a) by omega)
      rw [Int.mul_comm] at this
      exact this
/-- two slopes of one state, across -/
theorem crossS {a : AZ} (hO : OkZ a) {j k : Int} (j0 : 0 ≤ j) (j1 : j < zC a) (k0 : 0 ≤ k) (k1 : k < zC a) (nj : sMz a j ≠ 0) (nk : sMz a k ≠ 0) : (rdT (sNz a j) (sMz a j) * rdB (sNz a k) (sMz a k)).natAbs < 9223372036854775808 ∧ 0 < rdB (sNz a j) (sMz a j) ∧ (rdT (sNz a j) (sMz a j)).natAbs < 4611686018427387904 ∧ (rdB (sNz a j) (sMz a j)).natAbs < 4611686018427387904 := by
  have n1 := sN_b hO j0 j1
  have m1 := sM_b hO k0 k1
  have m2 := sM_b hO j0 j1
  have r1 := rd_b (a := sNz a j) nj
  have r2 := rd_b (a := sNz a k) nk
  obtain ⟨h0, h5, m0, m1', d0, d1, hr, hry, hrw, hi⟩ := hO
  have ok := sd_ok h0 h5 m0 m1' d0 d1
  have p := natAbs_mul_le (Nat.le_trans r1.1 n1) (Nat.le_trans r2.2.1 m1)
  have s1 : sBz (zC a) (zM a) (zD a) < 4611686018427387904 ∧ sDz (zC a) (zM a) (zD a) < 4611686018427387904 := by
    have c : zC a = 0 ∨ zC a = 1 ∨ zC a = 2 ∨ zC a = 3 ∨ zC a = 4 ∨ zC a = 5 := by omega
    have mm : zM a = 0 ∨ zM a = 1 ∨ zM a = 2 := by omega
    have dd : zD a = 0 ∨ zD a = 1 ∨ zD a = 2 ∨ zD a = 3 ∨ zD a = 4 := by omega
    rcases c with e | e | e | e | e | e <;> rcases mm with f | f | f <;> rcases dd with g | g | g | g | g <;> rw [e, f, g] <;> decide
  refine ⟨by omega, r1.2.2, by omega, by omega⟩
