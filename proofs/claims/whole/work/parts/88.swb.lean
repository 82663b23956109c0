/-! The sum of the weights without signs, for every state. -/
def winz (C m d : Int) : Int := if m = 0 then C - 1 else min d (C - 1)
def swB (C m d : Int) : Nat := if m = 2 then 45 else if C = 5 then (if winz 5 m d = 4 then 87750 else if winz 5 m d = 3 then 87750 else if winz 5 m d = 2 then 26026 else if winz 5 m d = 1 then 494 else 5) else if C = 4 then 1496 else 52488
section SWB
variable {C m d : Int} {X W : Int → Int}
theorem wt_r (k : Int) : (wtz C m d X W k).natAbs ≤ (rwz C m d X W k).natAbs := by
  unfold wtz
  by_cases e : gwz C m d X W C = 0
  · rw [if_pos e]
    exact Nat.le_refl _
  · rw [if_neg e]
    exact Int.natAbs_tdiv_le_natAbs _ _
theorem wsz_c {wt : Int → Int} {B : Nat} (c0 : 0 ≤ C) (h : ∀ k, 0 ≤ k → k < C → (wt k).natAbs ≤ B) : wsz C wt ≤ C * B := by
  unfold wsz
  refine Int.le_trans (smz_le (g := fun _ => (B : Int)) _ _ (fun i i0 i1 => ?_)) ?_
  · have := h i i0 (by omega)
    omega
  · rw [smz_k, show ((C.toNat : Nat) : Int) = C by omega]
    exact Int.le_refl _
theorem rwz_w (h : m ≠ 2) (k : Int) : rwz C m d X W k = blz C X (winz C m d) k := by
  unfold rwz winz
  rw [if_neg h]
theorem spz_3 (h0 : 0 ≤ C) (h3 : C ≤ 3) (hr : Rz C (-9) 9 X) : (spz X 0 C).natAbs ≤ 5832 := by
  rw [spz_0]
  have h := vdz_ge X C.toNat
  have a : ((vdz X C.toNat).natAbs : Int) ≤ pdz (fun k => ((18 ^ k.toNat : Nat) : Int)) C.toNat 0 := by
    unfold vdz
    apply pdz_bb
    intro k h1 h2
    apply pdz_b
    intro j h3 h4
    have := hr k (by omega) (by omega)
    have := hr j (by omega) (by omega)
    omega
  have b : pdz (fun k => ((18 ^ k.toNat : Nat) : Int)) C.toNat 0 ≤ 5832 := by
    have : C.toNat = 0 ∨ C.toNat = 1 ∨ C.toNat = 2 ∨ C.toNat = 3 := by omega
    rcases this with e | e | e | e <;> rw [e] <;> decide
  omega
theorem blz_3 (h0 : 0 ≤ C) (h3 : C ≤ 3) (hr : Rz C (-9) 9 X) {k : Int} (k0 : 0 ≤ k) (k1 : k < C) {w : Int} (w0 : 0 ≤ w) (w1 : w < C) : (blz C X w k).natAbs ≤ 17496 := by
  have q1 := plz_ge C X k
  have q2 := plz_r (X := X) k0 k1
  unfold blz
  refine Nat.le_trans (smz_b (f := wiz C X w k) (B := 5832) _ _ (fun i h1 h2 => ?_)) (by omega)
  have a := spz_3 h0 h3 hr
  have b := Int.natAbs_tdiv_le_natAbs (spz X 0 C) (dsz C X k i (i + w))
  unfold wiz
  split <;> omega
theorem zer_5 (hi : Inj 5 X) (hr : Rz 5 (-9) 9 X) (hw : ∀ k, 0 ≤ k → k < 5 → rwz 5 m d X W k = blz 5 X 0 k) : wsz 5 (wtz 5 m d X W) ≤ 5 := by
  obtain ⟨a, b, c, dd, a1, b1, c1, d1, e1, e2, e3, e4, eV⟩ := gaps5 hi hr
  have vp := gpV_p a b c dd
  generalize gpV a b c dd = V at *
  have r : ∀ p : Int, 0 ≤ p → p < 5 → rzz 5 (zoz 5 X) V 0 p = V ∨ rzz 5 (zoz 5 X) V 0 p = -(V : Int) := fun p p0 p1 => by
    have t1 : (V : Int).tdiv (1 * 1) = V := by rw [Int.mul_one, Int.tdiv_one]
    have cs : p = 0 ∨ p = 1 ∨ p = 2 ∨ p = 3 ∨ p = 4 := by omega
    rcases cs with rfl | rfl | rfl | rfl | rfl
    · left
      show (V : Int).tdiv (1 * 1) + 0 = V
      omega
    · right
      show -(V : Int).tdiv (1 * 1) + 0 = -(V : Int)
      omega
    · left
      show (V : Int).tdiv (1 * 1) + 0 = V
      omega
    · right
      show -(V : Int).tdiv (1 * 1) + 0 = -(V : Int)
      omega
    · left
      show (V : Int).tdiv (1 * 1) + 0 = V
      omega
  have hr2 : ∀ k, 0 ≤ k → k < 5 → rwz 5 m d X W k = rzz 5 (zoz 5 X) V 0 (plz 5 X k) := fun k k0 k1 => by
    rw [hw k k0 k1, blz_z hi k0 k1, eV]
    rfl
  have hg : gwz 5 m d X W 5 ≠ 0 := fun z => by
    have e := hr2 0 (by omega) (by omega)
    rw [← wtz_m (by omega) (by omega), z, Int.mul_zero] at e
    rcases r (plz 5 X 0) (plz_ge _ _ _) (plz_r (by omega) (by omega)) with q | q <;> omega
  have B := wsz_b (s := 5) (G := V) (V := V) (v := 1) (by omega) hi vp vp hr2 (fun p p0 p1 => by
    rcases r p p0 p1 with q | q
    · rw [q]
      exact Int.dvd_refl _
    · rw [q]
      exact Int.dvd_neg.2 (Int.dvd_refl _)) hg (by
    refine Int.le_trans (smz_le (g := fun _ => (V : Int)) _ _ (fun i i0 i1 => ?_)) ?_
    · rcases r i i0 (by omega) with q | q <;> rw [q] <;> omega
    · rw [smz_k, show (((5 : Int).toNat : Nat) : Int) = 5 from rfl]
      omega) (by omega)
  exact B.1
theorem zer_4 (hi : Inj 4 X) (hr : Rz 4 (-9) 9 X) (hw : ∀ k, 0 ≤ k → k < 4 → rwz 4 m d X W k = blz 4 X 0 k) : wsz 4 (wtz 4 m d X W) ≤ 4 := by
  obtain ⟨a, b, c, a1, b1, c1, e1, e2, e3, eV⟩ := gaps4 hi hr
  have vp := gqV_p a b c
  generalize gqV a b c = V at *
  have r : ∀ p : Int, 0 ≤ p → p < 4 → rzz 4 (zoz 4 X) V 0 p = V ∨ rzz 4 (zoz 4 X) V 0 p = -(V : Int) := fun p p0 p1 => by
    have t1 : (V : Int).tdiv (1 * 1) = V := by rw [Int.mul_one, Int.tdiv_one]
    have cs : p = 0 ∨ p = 1 ∨ p = 2 ∨ p = 3 := by omega
    rcases cs with rfl | rfl | rfl | rfl
    · left
      show (V : Int).tdiv (1 * 1) + 0 = V
      omega
    · right
      show -(V : Int).tdiv (1 * 1) + 0 = -(V : Int)
      omega
    · left
      show (V : Int).tdiv (1 * 1) + 0 = V
      omega
    · right
      show -(V : Int).tdiv (1 * 1) + 0 = -(V : Int)
      omega
  have hr2 : ∀ k, 0 ≤ k → k < 4 → rwz 4 m d X W k = rzz 4 (zoz 4 X) V 0 (plz 4 X k) := fun k k0 k1 => by
    rw [hw k k0 k1, blz_z hi k0 k1, eV]
    rfl
  have hg : gwz 4 m d X W 4 ≠ 0 := fun z => by
    have e := hr2 0 (by omega) (by omega)
    rw [← wtz_m (by omega) (by omega), z, Int.mul_zero] at e
    rcases r (plz 4 X 0) (plz_ge _ _ _) (plz_r (by omega) (by omega)) with q | q <;> omega
  have B := wsz_b (s := 4) (G := V) (V := V) (v := 1) (by omega) hi vp vp hr2 (fun p p0 p1 => by
    rcases r p p0 p1 with q | q
    · rw [q]
      exact Int.dvd_refl _
    · rw [q]
      exact Int.dvd_neg.2 (Int.dvd_refl _)) hg (by
    refine Int.le_trans (smz_le (g := fun _ => (V : Int)) _ _ (fun i i0 i1 => ?_)) ?_
    · rcases r i i0 (by omega) with q | q <;> rw [q] <;> omega
    · rw [smz_k, show (((4 : Int).toNat : Nat) : Int) = 4 from rfl]
      omega) (by omega)
  exact B.1
end SWB
theorem wsz_all {a : AZ} (hO : OkZ a) : wsz (zC a) (zw a) ≤ swB (zC a) (zM a) (zD a) := by
  obtain ⟨h0, h5, m0, m1, d0, d1, hr, hry, hrw, hi⟩ := hO
  show wsz (zC a) (wtz (zC a) (zM a) (zD a) (zX a) (zW a)) ≤ _
  generalize zC a = C at *
  generalize zM a = m at *
  generalize zD a = d at *
  unfold swB
  by_cases e2 : m = 2
  · rw [if_pos e2]
    have := wsz_c (wt := wtz C m d (zX a) (zW a)) (B := 9) h0 (fun k k0 k1 => by
      have r := wt_r (C := C) (m := m) (d := d) (X := zX a) (W := zW a) k
      have q : rwz C m d (zX a) (zW a) k = zW a k := by
        unfold rwz
        rw [if_pos e2]
      have := hrw k k0 k1
      rw [q] at r
      omega)
    omega
  · rw [if_neg e2]
    have W := rwz_w (C := C) (m := m) (d := d) (X := zX a) (W := zW a) e2
    have wr : 1 ≤ C → 0 ≤ winz C m d ∧ winz C m d < C := fun c1 => by
      unfold winz
      split <;> omega
    by_cases c5 : C = 5
    · subst c5
      rw [if_pos rfl]
      have w0 := wr (by omega)
      by_cases w4 : winz 5 m d = 4
      · rw [if_pos w4]
        rw [w4] at W
        exact (five_4 hi hr (fun k _ _ => W k)).2.1
      rw [if_neg w4]
      by_cases w3 : winz 5 m d = 3
      · rw [if_pos w3]
        rw [w3] at W
        exact (five_3 hi hr (fun k _ _ => W k)).2.1
      rw [if_neg w3]
      by_cases w2 : winz 5 m d = 2
      · rw [if_pos w2]
        rw [w2] at W
        exact (five_2 hi hr (fun k _ _ => W k)).2.1
      rw [if_neg w2]
      by_cases w1 : winz 5 m d = 1
      · rw [if_pos w1]
        rw [w1] at W
        exact (five_1 hi hr (fun k _ _ => W k)).2.1
      rw [if_neg w1]
      have w0' : winz 5 m d = 0 := by omega
      rw [w0'] at W
      exact zer_5 hi hr (fun k _ _ => W k)
    · rw [if_neg c5]
      by_cases c4 : C = 4
      · subst c4
        rw [if_pos rfl]
        have w0 := wr (by omega)
        have cs : winz 4 m d = 3 ∨ winz 4 m d = 2 ∨ winz 4 m d = 1 ∨ winz 4 m d = 0 := by omega
        rcases cs with w | w | w | w
        · rw [w] at W
          exact four_3 hi hr (fun k _ _ => W k)
        · rw [w] at W
          exact four_2 hi hr (fun k _ _ => W k)
        · rw [w] at W
          have := four_1 hi hr (fun k _ _ => W k)
          omega
        · rw [w] at W
          have := zer_4 hi hr (fun k _ _ => W k)
          omega
      · rw [if_neg c4]
        have := wsz_c (wt := wtz C m d (zX a) (zW a)) (B := 17496) h0 (fun k k0 k1 => by
          have r := wt_r (C := C) (m := m) (d := d) (X := zX a) (W := zW a) k
          have w0 := wr (by omega)
          have b := blz_3 (C := C) (X := zX a) h0 (by omega) hr k0 k1 w0.1 w0.2
          rw [W k] at r
          omega)
        omega
