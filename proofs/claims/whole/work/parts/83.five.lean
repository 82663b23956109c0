/-! Five points: the sum of the weights without signs, and what stands over the divisor. -/
/-- the X in order -/
noncomputable def zoz (C : Int) (X : Int → Int) (p : Int) : Int := X (ivz C X p)
section FIV
variable {m d0 : Int} {X W : Int → Int}
theorem gaps5 (hi : Inj 5 X) (hr : Rz 5 (-9) 9 X) : ∃ a b c d : Nat, a < 15 ∧ b < 15 - a ∧ c < 15 - a - b ∧ d < 15 - a - b - c ∧ zoz 5 X 1 = zoz 5 X 0 + (a + 1) ∧ zoz 5 X 2 = zoz 5 X 1 + (b + 1) ∧ zoz 5 X 3 = zoz 5 X 2 + (c + 1) ∧ zoz 5 X 4 = zoz 5 X 3 + (d + 1) ∧ spz X 0 5 = (gpV a b c d : Int) := by
  have h : ∀ p q, 0 ≤ p → p < q → q < 5 → zoz 5 X p < zoz 5 X q := fun p q p0 pq q5 => ivz_lt hi p0 pq q5
  have h2 : zoz 5 X 4 - zoz 5 X 0 ≤ 18 := by
    have a := ivz_s hi (p := 0) (by omega) (by omega)
    have b := ivz_s hi (p := 4) (by omega) (by omega)
    have := hr _ a.1 a.2.1
    have := hr _ b.1 b.2.1
    unfold zoz
    omega
  have hv : spz X 0 5 = vdz (zoz 5 X) 5 := by
    rw [spz_0]
    exact (vdz_iv hi).symm
  have g1 := h 0 1 (by omega) (by omega) (by omega)
  have g2 := h 1 2 (by omega) (by omega) (by omega)
  have g3 := h 2 3 (by omega) (by omega) (by omega)
  have g4 := h 3 4 (by omega) (by omega) (by omega)
  rw [hv]
  generalize zoz 5 X = Z at *
  obtain ⟨a, ha⟩ : ∃ a : Nat, Z 1 = Z 0 + (a + 1) := ⟨(Z 1 - Z 0 - 1).toNat, by omega⟩
  obtain ⟨b, hb⟩ : ∃ b : Nat, Z 2 = Z 1 + (b + 1) := ⟨(Z 2 - Z 1 - 1).toNat, by omega⟩
  obtain ⟨c, hc⟩ : ∃ c : Nat, Z 3 = Z 2 + (c + 1) := ⟨(Z 3 - Z 2 - 1).toNat, by omega⟩
  obtain ⟨d, hd⟩ : ∃ d : Nat, Z 4 = Z 3 + (d + 1) := ⟨(Z 4 - Z 3 - 1).toNat, by omega⟩
  refine ⟨a, b, c, d, by omega, by omega, by omega, by omega, ha, hb, hc, hd, ?_⟩
  show 1 * (((Z 1 - Z 0).natAbs : Int) * 1 * (((Z 2 - Z 0).natAbs : Int) * (((Z 2 - Z 1).natAbs : Int) * 1) * ((((Z 3 - Z 0).natAbs : Int) * (((Z 3 - Z 1).natAbs : Int) * (((Z 3 - Z 2).natAbs : Int) * 1))) * ((((Z 4 - Z 0).natAbs : Int) * (((Z 4 - Z 1).natAbs : Int) * (((Z 4 - Z 2).natAbs : Int) * (((Z 4 - Z 3).natAbs : Int) * 1)))) * 1)))) = _
  rw [show ((Z 1 - Z 0).natAbs : Int) = ((a + 1 : Nat) : Int) by omega, show ((Z 2 - Z 0).natAbs : Int) = ((a + b + 2 : Nat) : Int) by omega, show ((Z 2 - Z 1).natAbs : Int) = ((b + 1 : Nat) : Int) by omega, show ((Z 3 - Z 0).natAbs : Int) = ((a + b + c + 3 : Nat) : Int) by omega, show ((Z 3 - Z 1).natAbs : Int) = ((b + c + 2 : Nat) : Int) by omega, show ((Z 3 - Z 2).natAbs : Int) = ((c + 1 : Nat) : Int) by omega, show ((Z 4 - Z 0).natAbs : Int) = ((a + b + c + d + 4 : Nat) : Int) by omega, show ((Z 4 - Z 1).natAbs : Int) = ((b + c + d + 3 : Nat) : Int) by omega, show ((Z 4 - Z 2).natAbs : Int) = ((c + d + 2 : Nat) : Int) by omega, show ((Z 4 - Z 3).natAbs : Int) = ((d + 1 : Nat) : Int) by omega]
  unfold gpV
  generalize a + 1 = x1
  generalize b + 1 = x2
  generalize c + 1 = x3
  generalize d + 1 = x4
  generalize a + b + 2 = x5
  generalize b + c + 2 = x6
  generalize c + d + 2 = x7
  generalize a + b + c + 3 = x8
  generalize b + c + d + 3 = x9
  generalize a + b + c + d + 4 = x10
  simp only [Int.natCast_mul, Int.mul_one, Int.one_mul]
  simp only [Int.mul_assoc, Int.mul_comm, Int.mul_left_comm]
theorem gpV_p (a b c d : Nat) : 0 < gpV a b c d := by
  unfold gpV
  repeat' apply Nat.mul_pos
  all_goals omega
theorem five_4 (hi : Inj 5 X) (hr : Rz 5 (-9) 9 X) (hw : ∀ k, 0 ≤ k → k < 5 → rwz 5 m d0 X W k = blz 5 X 4 k) : gwz 5 m d0 X W 5 ≠ 0 ∧ wsz 5 (wtz 5 m d0 X W) ≤ 87750 ∧ (∀ D : Int, D * gwz 5 m d0 X W 5 = spz X 0 5 → D.natAbs ≤ 24504480) ∧ (spz X 0 5).natAbs ≤ 24504480 * (gwz 5 m d0 X W 5).natAbs := by
  obtain ⟨a, b, c, d, a1, b1, c1, d1, e1, e2, e3, e4, eV⟩ := gaps5 hi hr
  obtain ⟨k1, k2⟩ := gck_s (gqc4 a a1 b b1 c c1 d d1)
  have vp := gpV_p a b c d
  have h01 : zoz 5 X 1 - zoz 5 X 0 = ((a + 1 : Nat) : Int) := by omega
  have g01 : zoz 5 X 0 - zoz 5 X 1 = -((a + 1 : Nat) : Int) := by omega
  have h02 : zoz 5 X 2 - zoz 5 X 0 = ((a + b + 2 : Nat) : Int) := by omega
  have g02 : zoz 5 X 0 - zoz 5 X 2 = -((a + b + 2 : Nat) : Int) := by omega
  have h03 : zoz 5 X 3 - zoz 5 X 0 = ((a + b + c + 3 : Nat) : Int) := by omega
  have g03 : zoz 5 X 0 - zoz 5 X 3 = -((a + b + c + 3 : Nat) : Int) := by omega
  have h04 : zoz 5 X 4 - zoz 5 X 0 = ((a + b + c + d + 4 : Nat) : Int) := by omega
  have g04 : zoz 5 X 0 - zoz 5 X 4 = -((a + b + c + d + 4 : Nat) : Int) := by omega
  have h12 : zoz 5 X 2 - zoz 5 X 1 = ((b + 1 : Nat) : Int) := by omega
  have g12 : zoz 5 X 1 - zoz 5 X 2 = -((b + 1 : Nat) : Int) := by omega
  have h13 : zoz 5 X 3 - zoz 5 X 1 = ((b + c + 2 : Nat) : Int) := by omega
  have g13 : zoz 5 X 1 - zoz 5 X 3 = -((b + c + 2 : Nat) : Int) := by omega
  have h14 : zoz 5 X 4 - zoz 5 X 1 = ((b + c + d + 3 : Nat) : Int) := by omega
  have g14 : zoz 5 X 1 - zoz 5 X 4 = -((b + c + d + 3 : Nat) : Int) := by omega
  have h23 : zoz 5 X 3 - zoz 5 X 2 = ((c + 1 : Nat) : Int) := by omega
  have g23 : zoz 5 X 2 - zoz 5 X 3 = -((c + 1 : Nat) : Int) := by omega
  have h24 : zoz 5 X 4 - zoz 5 X 2 = ((c + d + 2 : Nat) : Int) := by omega
  have g24 : zoz 5 X 2 - zoz 5 X 4 = -((c + d + 2 : Nat) : Int) := by omega
  have h34 : zoz 5 X 4 - zoz 5 X 3 = ((d + 1 : Nat) : Int) := by omega
  have g34 : zoz 5 X 3 - zoz 5 X 4 = -((d + 1 : Nat) : Int) := by omega
  have r0 := rz4_0 (Z := zoz 5 X) (V := gpV a b c d) h01 g01 h02 g02 h03 g03 h04 g04 h12 g12 h13 g13 h14 g14 h23 g23 h24 g24 h34 g34
  have r1 := rz4_1 (Z := zoz 5 X) (V := gpV a b c d) h01 g01 h02 g02 h03 g03 h04 g04 h12 g12 h13 g13 h14 g14 h23 g23 h24 g24 h34 g34
  have r2 := rz4_2 (Z := zoz 5 X) (V := gpV a b c d) h01 g01 h02 g02 h03 g03 h04 g04 h12 g12 h13 g13 h14 g14 h23 g23 h24 g24 h34 g34
  have r3 := rz4_3 (Z := zoz 5 X) (V := gpV a b c d) h01 g01 h02 g02 h03 g03 h04 g04 h12 g12 h13 g13 h14 g14 h23 g23 h24 g24 h34 g34
  have r4 := rz4_4 (Z := zoz 5 X) (V := gpV a b c d) h01 g01 h02 g02 h03 g03 h04 g04 h12 g12 h13 g13 h14 g14 h23 g23 h24 g24 h34 g34
  have q0 : gq4_0 (gpV a b c d) (a + 1) (a + b + 2) (a + b + c + 3) (a + b + c + d + 4) (b + 1) (b + c + 2) (b + c + d + 3) (c + 1) (c + d + 2) (d + 1) ∈ gq4 (gpV a b c d) (a + 1) (a + b + 2) (a + b + c + 3) (a + b + c + d + 4) (b + 1) (b + c + 2) (b + c + d + 3) (c + 1) (c + d + 2) (d + 1) := by simp [gq4]
  have q1 : gq4_1 (gpV a b c d) (a + 1) (a + b + 2) (a + b + c + 3) (a + b + c + d + 4) (b + 1) (b + c + 2) (b + c + d + 3) (c + 1) (c + d + 2) (d + 1) ∈ gq4 (gpV a b c d) (a + 1) (a + b + 2) (a + b + c + 3) (a + b + c + d + 4) (b + 1) (b + c + 2) (b + c + d + 3) (c + 1) (c + d + 2) (d + 1) := by simp [gq4]
  have q2 : gq4_2 (gpV a b c d) (a + 1) (a + b + 2) (a + b + c + 3) (a + b + c + d + 4) (b + 1) (b + c + 2) (b + c + d + 3) (c + 1) (c + d + 2) (d + 1) ∈ gq4 (gpV a b c d) (a + 1) (a + b + 2) (a + b + c + 3) (a + b + c + d + 4) (b + 1) (b + c + 2) (b + c + d + 3) (c + 1) (c + d + 2) (d + 1) := by simp [gq4]
  have q3 : gq4_3 (gpV a b c d) (a + 1) (a + b + 2) (a + b + c + 3) (a + b + c + d + 4) (b + 1) (b + c + 2) (b + c + d + 3) (c + 1) (c + d + 2) (d + 1) ∈ gq4 (gpV a b c d) (a + 1) (a + b + 2) (a + b + c + 3) (a + b + c + d + 4) (b + 1) (b + c + 2) (b + c + d + 3) (c + 1) (c + d + 2) (d + 1) := by simp [gq4]
  have q4 : gq4_4 (gpV a b c d) (a + 1) (a + b + 2) (a + b + c + 3) (a + b + c + d + 4) (b + 1) (b + c + 2) (b + c + d + 3) (c + 1) (c + d + 2) (d + 1) ∈ gq4 (gpV a b c d) (a + 1) (a + b + 2) (a + b + c + 3) (a + b + c + d + 4) (b + 1) (b + c + 2) (b + c + d + 3) (c + 1) (c + d + 2) (d + 1) := by simp [gq4]
  have dv := fun x hx => lgcd_d (gq4 (gpV a b c d) (a + 1) (a + b + 2) (a + b + c + 3) (a + b + c + d + 4) (b + 1) (b + c + 2) (b + c + d + 3) (c + 1) (c + d + 2) (d + 1)) x hx
  have ls : lsum (gq4 (gpV a b c d) (a + 1) (a + b + 2) (a + b + c + 3) (a + b + c + d + 4) (b + 1) (b + c + 2) (b + c + d + 3) (c + 1) (c + d + 2) (d + 1)) = gq4_0 (gpV a b c d) (a + 1) (a + b + 2) (a + b + c + 3) (a + b + c + d + 4) (b + 1) (b + c + 2) (b + c + d + 3) (c + 1) (c + d + 2) (d + 1) + gq4_1 (gpV a b c d) (a + 1) (a + b + 2) (a + b + c + 3) (a + b + c + d + 4) (b + 1) (b + c + 2) (b + c + d + 3) (c + 1) (c + d + 2) (d + 1) + gq4_2 (gpV a b c d) (a + 1) (a + b + 2) (a + b + c + 3) (a + b + c + d + 4) (b + 1) (b + c + 2) (b + c + d + 3) (c + 1) (c + d + 2) (d + 1) + gq4_3 (gpV a b c d) (a + 1) (a + b + 2) (a + b + c + 3) (a + b + c + d + 4) (b + 1) (b + c + 2) (b + c + d + 3) (c + 1) (c + d + 2) (d + 1) + gq4_4 (gpV a b c d) (a + 1) (a + b + 2) (a + b + c + 3) (a + b + c + d + 4) (b + 1) (b + c + 2) (b + c + d + 3) (c + 1) (c + d + 2) (d + 1) := by
    show _ + (_ + (_ + (_ + (_ + 0)))) = _
    omega
  have lz := lgcd_0 (gq4 (gpV a b c d) (a + 1) (a + b + 2) (a + b + c + 3) (a + b + c + d + 4) (b + 1) (b + c + 2) (b + c + d + 3) (c + 1) (c + d + 2) (d + 1))
  have t0 := dv _ q0
  have t1 := dv _ q1
  have t2 := dv _ q2
  have t3 := dv _ q3
  have t4 := dv _ q4
  generalize lgcd (gq4 (gpV a b c d) (a + 1) (a + b + 2) (a + b + c + 3) (a + b + c + d + 4) (b + 1) (b + c + 2) (b + c + d + 3) (c + 1) (c + d + 2) (d + 1)) = GG at *
  generalize lsum (gq4 (gpV a b c d) (a + 1) (a + b + 2) (a + b + c + 3) (a + b + c + d + 4) (b + 1) (b + c + 2) (b + c + d + 3) (c + 1) (c + d + 2) (d + 1)) = LL at *
  generalize gq4_0 (gpV a b c d) (a + 1) (a + b + 2) (a + b + c + 3) (a + b + c + d + 4) (b + 1) (b + c + 2) (b + c + d + 3) (c + 1) (c + d + 2) (d + 1) = y0 at *
  generalize gq4_1 (gpV a b c d) (a + 1) (a + b + 2) (a + b + c + 3) (a + b + c + d + 4) (b + 1) (b + c + 2) (b + c + d + 3) (c + 1) (c + d + 2) (d + 1) = y1 at *
  generalize gq4_2 (gpV a b c d) (a + 1) (a + b + 2) (a + b + c + 3) (a + b + c + d + 4) (b + 1) (b + c + 2) (b + c + d + 3) (c + 1) (c + d + 2) (d + 1) = y2 at *
  generalize gq4_3 (gpV a b c d) (a + 1) (a + b + 2) (a + b + c + 3) (a + b + c + d + 4) (b + 1) (b + c + 2) (b + c + d + 3) (c + 1) (c + d + 2) (d + 1) = y3 at *
  generalize gq4_4 (gpV a b c d) (a + 1) (a + b + 2) (a + b + c + 3) (a + b + c + d + 4) (b + 1) (b + c + 2) (b + c + d + 3) (c + 1) (c + d + 2) (d + 1) = y4 at *
  have G0 : 0 < GG := by
    rcases Nat.eq_zero_or_pos GG with z | z
    · rw [z] at k2
      have := Nat.mul_pos vp (show 0 < a + b + c + d + 4 by omega)
      omega
    · exact z
  have hr2 : ∀ k, 0 ≤ k → k < 5 → rwz 5 m d0 X W k = rzz 5 (zoz 5 X) (gpV a b c d) 4 (plz 5 X k) := fun k k0 k1 => by
    rw [hw k k0 k1, blz_z hi k0 k1, eV]
    rfl
  have hg : gwz 5 m d0 X W 5 ≠ 0 := fun z => by
    have zz : ∀ p, 0 ≤ p → p < 5 → rzz 5 (zoz 5 X) (gpV a b c d) 4 p = 0 := fun p p0 p1 => by
      obtain ⟨i0, i1, i2⟩ := ivz_s hi (p := p) p0 p1
      have e := hr2 _ i0 i1
      rw [i2, ← wtz_m i0 i1, z, Int.mul_zero] at e
      exact e.symm
    have z0 := zz 0 (by omega) (by omega)
    have z1 := zz 1 (by omega) (by omega)
    have z2 := zz 2 (by omega) (by omega)
    have z3' := zz 3 (by omega) (by omega)
    have z4 := zz 4 (by omega) (by omega)
    rw [r0] at z0
    rw [r1] at z1
    rw [r2] at z2
    rw [r3] at z3'
    rw [r4] at z4
    have := lz (by omega)
    omega
  have B := wsz_b (s := 87750) (G := GG) (V := gpV a b c d) (v := 24504480) (by omega) hi G0 (by exact vp) hr2 (fun p p0 p1 => ?_) hg ?_ k2
  · have gg : GG ≤ (gwz 5 m d0 X W 5).natAbs := by
      have := B.2.1
      omega
    have g3 := Nat.mul_le_mul_left 24504480 gg
    have e5 : spz X 0 5 = (((gpV a b c d) : Nat) : Int) := by
      rw [eV]
    refine ⟨hg, B.1, fun D hD => B.2.2 D (hD.trans e5), ?_⟩
    rw [e5]
    show ((gpV a b c d) : Nat) ≤ _
    omega
  · have cs : p = 0 ∨ p = 1 ∨ p = 2 ∨ p = 3 ∨ p = 4 := by omega
    rcases cs with rfl | rfl | rfl | rfl | rfl
    · rw [r0]
      exact Int.natCast_dvd_natCast.2 t0
    · rw [r1]
      exact Int.dvd_neg.2 (Int.natCast_dvd_natCast.2 t1)
    · rw [r2]
      exact Int.natCast_dvd_natCast.2 t2
    · rw [r3]
      exact Int.dvd_neg.2 (Int.natCast_dvd_natCast.2 t3)
    · rw [r4]
      exact Int.natCast_dvd_natCast.2 t4
  · show ((rzz 5 (zoz 5 X) (gpV a b c d) 4 0).natAbs : Int) + (((rzz 5 (zoz 5 X) (gpV a b c d) 4 1).natAbs : Int) + (((rzz 5 (zoz 5 X) (gpV a b c d) 4 2).natAbs : Int) + (((rzz 5 (zoz 5 X) (gpV a b c d) 4 3).natAbs : Int) + (((rzz 5 (zoz 5 X) (gpV a b c d) 4 4).natAbs : Int) + 0)))) ≤ _
    rw [r0, r1, r2, r3, r4]
    omega
theorem five_3 (hi : Inj 5 X) (hr : Rz 5 (-9) 9 X) (hw : ∀ k, 0 ≤ k → k < 5 → rwz 5 m d0 X W k = blz 5 X 3 k) : gwz 5 m d0 X W 5 ≠ 0 ∧ wsz 5 (wtz 5 m d0 X W) ≤ 87750 ∧ (∀ D : Int, D * gwz 5 m d0 X W 5 = spz X 0 5 * (zoz 5 X 4 - zoz 5 X 0) → D.natAbs ≤ 24504480) ∧ (spz X 0 5 * (zoz 5 X 4 - zoz 5 X 0)).natAbs ≤ 24504480 * (gwz 5 m d0 X W 5).natAbs := by
  obtain ⟨a, b, c, d, a1, b1, c1, d1, e1, e2, e3, e4, eV⟩ := gaps5 hi hr
  obtain ⟨k1, k2⟩ := gck_s (gqc3 a a1 b b1 c c1 d d1)
  have vp := gpV_p a b c d
  have h01 : zoz 5 X 1 - zoz 5 X 0 = ((a + 1 : Nat) : Int) := by omega
  have g01 : zoz 5 X 0 - zoz 5 X 1 = -((a + 1 : Nat) : Int) := by omega
  have h02 : zoz 5 X 2 - zoz 5 X 0 = ((a + b + 2 : Nat) : Int) := by omega
  have g02 : zoz 5 X 0 - zoz 5 X 2 = -((a + b + 2 : Nat) : Int) := by omega
  have h03 : zoz 5 X 3 - zoz 5 X 0 = ((a + b + c + 3 : Nat) : Int) := by omega
  have g03 : zoz 5 X 0 - zoz 5 X 3 = -((a + b + c + 3 : Nat) : Int) := by omega
  have h04 : zoz 5 X 4 - zoz 5 X 0 = ((a + b + c + d + 4 : Nat) : Int) := by omega
  have g04 : zoz 5 X 0 - zoz 5 X 4 = -((a + b + c + d + 4 : Nat) : Int) := by omega
  have h12 : zoz 5 X 2 - zoz 5 X 1 = ((b + 1 : Nat) : Int) := by omega
  have g12 : zoz 5 X 1 - zoz 5 X 2 = -((b + 1 : Nat) : Int) := by omega
  have h13 : zoz 5 X 3 - zoz 5 X 1 = ((b + c + 2 : Nat) : Int) := by omega
  have g13 : zoz 5 X 1 - zoz 5 X 3 = -((b + c + 2 : Nat) : Int) := by omega
  have h14 : zoz 5 X 4 - zoz 5 X 1 = ((b + c + d + 3 : Nat) : Int) := by omega
  have g14 : zoz 5 X 1 - zoz 5 X 4 = -((b + c + d + 3 : Nat) : Int) := by omega
  have h23 : zoz 5 X 3 - zoz 5 X 2 = ((c + 1 : Nat) : Int) := by omega
  have g23 : zoz 5 X 2 - zoz 5 X 3 = -((c + 1 : Nat) : Int) := by omega
  have h24 : zoz 5 X 4 - zoz 5 X 2 = ((c + d + 2 : Nat) : Int) := by omega
  have g24 : zoz 5 X 2 - zoz 5 X 4 = -((c + d + 2 : Nat) : Int) := by omega
  have h34 : zoz 5 X 4 - zoz 5 X 3 = ((d + 1 : Nat) : Int) := by omega
  have g34 : zoz 5 X 3 - zoz 5 X 4 = -((d + 1 : Nat) : Int) := by omega
  have r0 := rz3_0 (Z := zoz 5 X) (V := gpV a b c d) h01 g01 h02 g02 h03 g03 h04 g04 h12 g12 h13 g13 h14 g14 h23 g23 h24 g24 h34 g34
  have r1 := rz3_1 (Z := zoz 5 X) (V := gpV a b c d) h01 g01 h02 g02 h03 g03 h04 g04 h12 g12 h13 g13 h14 g14 h23 g23 h24 g24 h34 g34
  have r2 := rz3_2 (Z := zoz 5 X) (V := gpV a b c d) h01 g01 h02 g02 h03 g03 h04 g04 h12 g12 h13 g13 h14 g14 h23 g23 h24 g24 h34 g34
  have r3 := rz3_3 (Z := zoz 5 X) (V := gpV a b c d) h01 g01 h02 g02 h03 g03 h04 g04 h12 g12 h13 g13 h14 g14 h23 g23 h24 g24 h34 g34
  have r4 := rz3_4 (Z := zoz 5 X) (V := gpV a b c d) h01 g01 h02 g02 h03 g03 h04 g04 h12 g12 h13 g13 h14 g14 h23 g23 h24 g24 h34 g34
  have q0 : gq3_0 (gpV a b c d) (a + 1) (a + b + 2) (a + b + c + 3) (a + b + c + d + 4) (b + 1) (b + c + 2) (b + c + d + 3) (c + 1) (c + d + 2) (d + 1) ∈ gq3 (gpV a b c d) (a + 1) (a + b + 2) (a + b + c + 3) (a + b + c + d + 4) (b + 1) (b + c + 2) (b + c + d + 3) (c + 1) (c + d + 2) (d + 1) := by simp [gq3]
  have q1 : gq3_1 (gpV a b c d) (a + 1) (a + b + 2) (a + b + c + 3) (a + b + c + d + 4) (b + 1) (b + c + 2) (b + c + d + 3) (c + 1) (c + d + 2) (d + 1) ∈ gq3 (gpV a b c d) (a + 1) (a + b + 2) (a + b + c + 3) (a + b + c + d + 4) (b + 1) (b + c + 2) (b + c + d + 3) (c + 1) (c + d + 2) (d + 1) := by simp [gq3]
  have q2 : gq3_2 (gpV a b c d) (a + 1) (a + b + 2) (a + b + c + 3) (a + b + c + d + 4) (b + 1) (b + c + 2) (b + c + d + 3) (c + 1) (c + d + 2) (d + 1) ∈ gq3 (gpV a b c d) (a + 1) (a + b + 2) (a + b + c + 3) (a + b + c + d + 4) (b + 1) (b + c + 2) (b + c + d + 3) (c + 1) (c + d + 2) (d + 1) := by simp [gq3]
  have q3 : gq3_3 (gpV a b c d) (a + 1) (a + b + 2) (a + b + c + 3) (a + b + c + d + 4) (b + 1) (b + c + 2) (b + c + d + 3) (c + 1) (c + d + 2) (d + 1) ∈ gq3 (gpV a b c d) (a + 1) (a + b + 2) (a + b + c + 3) (a + b + c + d + 4) (b + 1) (b + c + 2) (b + c + d + 3) (c + 1) (c + d + 2) (d + 1) := by simp [gq3]
  have q4 : gq3_4 (gpV a b c d) (a + 1) (a + b + 2) (a + b + c + 3) (a + b + c + d + 4) (b + 1) (b + c + 2) (b + c + d + 3) (c + 1) (c + d + 2) (d + 1) ∈ gq3 (gpV a b c d) (a + 1) (a + b + 2) (a + b + c + 3) (a + b + c + d + 4) (b + 1) (b + c + 2) (b + c + d + 3) (c + 1) (c + d + 2) (d + 1) := by simp [gq3]
  have dv := fun x hx => lgcd_d (gq3 (gpV a b c d) (a + 1) (a + b + 2) (a + b + c + 3) (a + b + c + d + 4) (b + 1) (b + c + 2) (b + c + d + 3) (c + 1) (c + d + 2) (d + 1)) x hx
  have ls : lsum (gq3 (gpV a b c d) (a + 1) (a + b + 2) (a + b + c + 3) (a + b + c + d + 4) (b + 1) (b + c + 2) (b + c + d + 3) (c + 1) (c + d + 2) (d + 1)) = gq3_0 (gpV a b c d) (a + 1) (a + b + 2) (a + b + c + 3) (a + b + c + d + 4) (b + 1) (b + c + 2) (b + c + d + 3) (c + 1) (c + d + 2) (d + 1) + gq3_1 (gpV a b c d) (a + 1) (a + b + 2) (a + b + c + 3) (a + b + c + d + 4) (b + 1) (b + c + 2) (b + c + d + 3) (c + 1) (c + d + 2) (d + 1) + gq3_2 (gpV a b c d) (a + 1) (a + b + 2) (a + b + c + 3) (a + b + c + d + 4) (b + 1) (b + c + 2) (b + c + d + 3) (c + 1) (c + d + 2) (d + 1) + gq3_3 (gpV a b c d) (a + 1) (a + b + 2) (a + b + c + 3) (a + b + c + d + 4) (b + 1) (b + c + 2) (b + c + d + 3) (c + 1) (c + d + 2) (d + 1) + gq3_4 (gpV a b c d) (a + 1) (a + b + 2) (a + b + c + 3) (a + b + c + d + 4) (b + 1) (b + c + 2) (b + c + d + 3) (c + 1) (c + d + 2) (d + 1) := by
    show _ + (_ + (_ + (_ + (_ + 0)))) = _
    omega
  have lz := lgcd_0 (gq3 (gpV a b c d) (a + 1) (a + b + 2) (a + b + c + 3) (a + b + c + d + 4) (b + 1) (b + c + 2) (b + c + d + 3) (c + 1) (c + d + 2) (d + 1))
  have t0 := dv _ q0
  have t1 := dv _ q1
  have t2 := dv _ q2
  have t3 := dv _ q3
  have t4 := dv _ q4
  generalize lgcd (gq3 (gpV a b c d) (a + 1) (a + b + 2) (a + b + c + 3) (a + b + c + d + 4) (b + 1) (b + c + 2) (b + c + d + 3) (c + 1) (c + d + 2) (d + 1)) = GG at *
  generalize lsum (gq3 (gpV a b c d) (a + 1) (a + b + 2) (a + b + c + 3) (a + b + c + d + 4) (b + 1) (b + c + 2) (b + c + d + 3) (c + 1) (c + d + 2) (d + 1)) = LL at *
  generalize gq3_0 (gpV a b c d) (a + 1) (a + b + 2) (a + b + c + 3) (a + b + c + d + 4) (b + 1) (b + c + 2) (b + c + d + 3) (c + 1) (c + d + 2) (d + 1) = y0 at *
  generalize gq3_1 (gpV a b c d) (a + 1) (a + b + 2) (a + b + c + 3) (a + b + c + d + 4) (b + 1) (b + c + 2) (b + c + d + 3) (c + 1) (c + d + 2) (d + 1) = y1 at *
  generalize gq3_2 (gpV a b c d) (a + 1) (a + b + 2) (a + b + c + 3) (a + b + c + d + 4) (b + 1) (b + c + 2) (b + c + d + 3) (c + 1) (c + d + 2) (d + 1) = y2 at *
  generalize gq3_3 (gpV a b c d) (a + 1) (a + b + 2) (a + b + c + 3) (a + b + c + d + 4) (b + 1) (b + c + 2) (b + c + d + 3) (c + 1) (c + d + 2) (d + 1) = y3 at *
  generalize gq3_4 (gpV a b c d) (a + 1) (a + b + 2) (a + b + c + 3) (a + b + c + d + 4) (b + 1) (b + c + 2) (b + c + d + 3) (c + 1) (c + d + 2) (d + 1) = y4 at *
  have G0 : 0 < GG := by
    rcases Nat.eq_zero_or_pos GG with z | z
    · rw [z] at k2
      have := Nat.mul_pos vp (show 0 < a + b + c + d + 4 by omega)
      omega
    · exact z
  have hr2 : ∀ k, 0 ≤ k → k < 5 → rwz 5 m d0 X W k = rzz 5 (zoz 5 X) (gpV a b c d) 3 (plz 5 X k) := fun k k0 k1 => by
    rw [hw k k0 k1, blz_z hi k0 k1, eV]
    rfl
  have hg : gwz 5 m d0 X W 5 ≠ 0 := fun z => by
    have zz : ∀ p, 0 ≤ p → p < 5 → rzz 5 (zoz 5 X) (gpV a b c d) 3 p = 0 := fun p p0 p1 => by
      obtain ⟨i0, i1, i2⟩ := ivz_s hi (p := p) p0 p1
      have e := hr2 _ i0 i1
      rw [i2, ← wtz_m i0 i1, z, Int.mul_zero] at e
      exact e.symm
    have z0 := zz 0 (by omega) (by omega)
    have z1 := zz 1 (by omega) (by omega)
    have z2 := zz 2 (by omega) (by omega)
    have z3' := zz 3 (by omega) (by omega)
    have z4 := zz 4 (by omega) (by omega)
    rw [r0] at z0
    rw [r1] at z1
    rw [r2] at z2
    rw [r3] at z3'
    rw [r4] at z4
    have := lz (by omega)
    omega
  have B := wsz_b (s := 87750) (G := GG) (V := gpV a b c d * (a + b + c + d + 4)) (v := 24504480) (by omega) hi G0 (by exact Nat.mul_pos vp (by omega)) hr2 (fun p p0 p1 => ?_) hg ?_ k2
  · have gg : GG ≤ (gwz 5 m d0 X W 5).natAbs := by
      have := B.2.1
      omega
    have g3 := Nat.mul_le_mul_left 24504480 gg
    have e5 : spz X 0 5 * (zoz 5 X 4 - zoz 5 X 0) = (((gpV a b c d * (a + b + c + d + 4)) : Nat) : Int) := by
      rw [eV]
      rw [h04, Int.natCast_mul]
    refine ⟨hg, B.1, fun D hD => B.2.2 D (hD.trans e5), ?_⟩
    rw [e5]
    show ((gpV a b c d * (a + b + c + d + 4)) : Nat) ≤ _
    omega
  · have cs : p = 0 ∨ p = 1 ∨ p = 2 ∨ p = 3 ∨ p = 4 := by omega
    rcases cs with rfl | rfl | rfl | rfl | rfl
    · rw [r0]
      exact Int.dvd_neg.2 (Int.natCast_dvd_natCast.2 t0)
    · rw [r1]
      exact Int.natCast_dvd_natCast.2 t1
    · rw [r2]
      exact Int.dvd_neg.2 (Int.natCast_dvd_natCast.2 t2)
    · rw [r3]
      exact Int.natCast_dvd_natCast.2 t3
    · rw [r4]
      exact Int.dvd_neg.2 (Int.natCast_dvd_natCast.2 t4)
  · show ((rzz 5 (zoz 5 X) (gpV a b c d) 3 0).natAbs : Int) + (((rzz 5 (zoz 5 X) (gpV a b c d) 3 1).natAbs : Int) + (((rzz 5 (zoz 5 X) (gpV a b c d) 3 2).natAbs : Int) + (((rzz 5 (zoz 5 X) (gpV a b c d) 3 3).natAbs : Int) + (((rzz 5 (zoz 5 X) (gpV a b c d) 3 4).natAbs : Int) + 0)))) ≤ _
    rw [r0, r1, r2, r3, r4]
    omega
theorem five_2 (hi : Inj 5 X) (hr : Rz 5 (-9) 9 X) (hw : ∀ k, 0 ≤ k → k < 5 → rwz 5 m d0 X W k = blz 5 X 2 k) : gwz 5 m d0 X W 5 ≠ 0 ∧ wsz 5 (wtz 5 m d0 X W) ≤ 26026 ∧ (∀ D : Int, D * gwz 5 m d0 X W 5 = spz X 0 5 → D.natAbs ≤ 60060) ∧ (spz X 0 5).natAbs ≤ 60060 * (gwz 5 m d0 X W 5).natAbs := by
  obtain ⟨a, b, c, d, a1, b1, c1, d1, e1, e2, e3, e4, eV⟩ := gaps5 hi hr
  obtain ⟨k1, k2⟩ := gck_s (gqc2 a a1 b b1 c c1 d d1)
  have vp := gpV_p a b c d
  have h01 : zoz 5 X 1 - zoz 5 X 0 = ((a + 1 : Nat) : Int) := by omega
  have g01 : zoz 5 X 0 - zoz 5 X 1 = -((a + 1 : Nat) : Int) := by omega
  have h02 : zoz 5 X 2 - zoz 5 X 0 = ((a + b + 2 : Nat) : Int) := by omega
  have g02 : zoz 5 X 0 - zoz 5 X 2 = -((a + b + 2 : Nat) : Int) := by omega
  have h03 : zoz 5 X 3 - zoz 5 X 0 = ((a + b + c + 3 : Nat) : Int) := by omega
  have g03 : zoz 5 X 0 - zoz 5 X 3 = -((a + b + c + 3 : Nat) : Int) := by omega
  have h04 : zoz 5 X 4 - zoz 5 X 0 = ((a + b + c + d + 4 : Nat) : Int) := by omega
  have g04 : zoz 5 X 0 - zoz 5 X 4 = -((a + b + c + d + 4 : Nat) : Int) := by omega
  have h12 : zoz 5 X 2 - zoz 5 X 1 = ((b + 1 : Nat) : Int) := by omega
  have g12 : zoz 5 X 1 - zoz 5 X 2 = -((b + 1 : Nat) : Int) := by omega
  have h13 : zoz 5 X 3 - zoz 5 X 1 = ((b + c + 2 : Nat) : Int) := by omega
  have g13 : zoz 5 X 1 - zoz 5 X 3 = -((b + c + 2 : Nat) : Int) := by omega
  have h14 : zoz 5 X 4 - zoz 5 X 1 = ((b + c + d + 3 : Nat) : Int) := by omega
  have g14 : zoz 5 X 1 - zoz 5 X 4 = -((b + c + d + 3 : Nat) : Int) := by omega
  have h23 : zoz 5 X 3 - zoz 5 X 2 = ((c + 1 : Nat) : Int) := by omega
  have g23 : zoz 5 X 2 - zoz 5 X 3 = -((c + 1 : Nat) : Int) := by omega
  have h24 : zoz 5 X 4 - zoz 5 X 2 = ((c + d + 2 : Nat) : Int) := by omega
  have g24 : zoz 5 X 2 - zoz 5 X 4 = -((c + d + 2 : Nat) : Int) := by omega
  have h34 : zoz 5 X 4 - zoz 5 X 3 = ((d + 1 : Nat) : Int) := by omega
  have g34 : zoz 5 X 3 - zoz 5 X 4 = -((d + 1 : Nat) : Int) := by omega
  have r0 := rz2_0 (Z := zoz 5 X) (V := gpV a b c d) h01 g01 h02 g02 h03 g03 h04 g04 h12 g12 h13 g13 h14 g14 h23 g23 h24 g24 h34 g34
  have r1 := rz2_1 (Z := zoz 5 X) (V := gpV a b c d) h01 g01 h02 g02 h03 g03 h04 g04 h12 g12 h13 g13 h14 g14 h23 g23 h24 g24 h34 g34
  have r2 := rz2_2 (Z := zoz 5 X) (V := gpV a b c d) h01 g01 h02 g02 h03 g03 h04 g04 h12 g12 h13 g13 h14 g14 h23 g23 h24 g24 h34 g34
  have r3 := rz2_3 (Z := zoz 5 X) (V := gpV a b c d) h01 g01 h02 g02 h03 g03 h04 g04 h12 g12 h13 g13 h14 g14 h23 g23 h24 g24 h34 g34
  have r4 := rz2_4 (Z := zoz 5 X) (V := gpV a b c d) h01 g01 h02 g02 h03 g03 h04 g04 h12 g12 h13 g13 h14 g14 h23 g23 h24 g24 h34 g34
  have q0 : gq2_0 (gpV a b c d) (a + 1) (a + b + 2) (a + b + c + 3) (a + b + c + d + 4) (b + 1) (b + c + 2) (b + c + d + 3) (c + 1) (c + d + 2) (d + 1) ∈ gq2 (gpV a b c d) (a + 1) (a + b + 2) (a + b + c + 3) (a + b + c + d + 4) (b + 1) (b + c + 2) (b + c + d + 3) (c + 1) (c + d + 2) (d + 1) := by simp [gq2]
  have q1 : gq2_1 (gpV a b c d) (a + 1) (a + b + 2) (a + b + c + 3) (a + b + c + d + 4) (b + 1) (b + c + 2) (b + c + d + 3) (c + 1) (c + d + 2) (d + 1) ∈ gq2 (gpV a b c d) (a + 1) (a + b + 2) (a + b + c + 3) (a + b + c + d + 4) (b + 1) (b + c + 2) (b + c + d + 3) (c + 1) (c + d + 2) (d + 1) := by simp [gq2]
  have q2 : gq2_2 (gpV a b c d) (a + 1) (a + b + 2) (a + b + c + 3) (a + b + c + d + 4) (b + 1) (b + c + 2) (b + c + d + 3) (c + 1) (c + d + 2) (d + 1) ∈ gq2 (gpV a b c d) (a + 1) (a + b + 2) (a + b + c + 3) (a + b + c + d + 4) (b + 1) (b + c + 2) (b + c + d + 3) (c + 1) (c + d + 2) (d + 1) := by simp [gq2]
  have q3 : gq2_3 (gpV a b c d) (a + 1) (a + b + 2) (a + b + c + 3) (a + b + c + d + 4) (b + 1) (b + c + 2) (b + c + d + 3) (c + 1) (c + d + 2) (d + 1) ∈ gq2 (gpV a b c d) (a + 1) (a + b + 2) (a + b + c + 3) (a + b + c + d + 4) (b + 1) (b + c + 2) (b + c + d + 3) (c + 1) (c + d + 2) (d + 1) := by simp [gq2]
  have q4 : gq2_4 (gpV a b c d) (a + 1) (a + b + 2) (a + b + c + 3) (a + b + c + d + 4) (b + 1) (b + c + 2) (b + c + d + 3) (c + 1) (c + d + 2) (d + 1) ∈ gq2 (gpV a b c d) (a + 1) (a + b + 2) (a + b + c + 3) (a + b + c + d + 4) (b + 1) (b + c + 2) (b + c + d + 3) (c + 1) (c + d + 2) (d + 1) := by simp [gq2]
  have dv := fun x hx => lgcd_d (gq2 (gpV a b c d) (a + 1) (a + b + 2) (a + b + c + 3) (a + b + c + d + 4) (b + 1) (b + c + 2) (b + c + d + 3) (c + 1) (c + d + 2) (d + 1)) x hx
  have ls : lsum (gq2 (gpV a b c d) (a + 1) (a + b + 2) (a + b + c + 3) (a + b + c + d + 4) (b + 1) (b + c + 2) (b + c + d + 3) (c + 1) (c + d + 2) (d + 1)) = gq2_0 (gpV a b c d) (a + 1) (a + b + 2) (a + b + c + 3) (a + b + c + d + 4) (b + 1) (b + c + 2) (b + c + d + 3) (c + 1) (c + d + 2) (d + 1) + gq2_1 (gpV a b c d) (a + 1) (a + b + 2) (a + b + c + 3) (a + b + c + d + 4) (b + 1) (b + c + 2) (b + c + d + 3) (c + 1) (c + d + 2) (d + 1) + gq2_2 (gpV a b c d) (a + 1) (a + b + 2) (a + b + c + 3) (a + b + c + d + 4) (b + 1) (b + c + 2) (b + c + d + 3) (c + 1) (c + d + 2) (d + 1) + gq2_3 (gpV a b c d) (a + 1) (a + b + 2) (a + b + c + 3) (a + b + c + d + 4) (b + 1) (b + c + 2) (b + c + d + 3) (c + 1) (c + d + 2) (d + 1) + gq2_4 (gpV a b c d) (a + 1) (a + b + 2) (a + b + c + 3) (a + b + c + d + 4) (b + 1) (b + c + 2) (b + c + d + 3) (c + 1) (c + d + 2) (d + 1) := by
    show _ + (_ + (_ + (_ + (_ + 0)))) = _
    omega
  have lz := lgcd_0 (gq2 (gpV a b c d) (a + 1) (a + b + 2) (a + b + c + 3) (a + b + c + d + 4) (b + 1) (b + c + 2) (b + c + d + 3) (c + 1) (c + d + 2) (d + 1))
  have t0 := dv _ q0
  have t1 := dv _ q1
  have t2 := dv _ q2
  have t3 := dv _ q3
  have t4 := dv _ q4
  generalize lgcd (gq2 (gpV a b c d) (a + 1) (a + b + 2) (a + b + c + 3) (a + b + c + d + 4) (b + 1) (b + c + 2) (b + c + d + 3) (c + 1) (c + d + 2) (d + 1)) = GG at *
  generalize lsum (gq2 (gpV a b c d) (a + 1) (a + b + 2) (a + b + c + 3) (a + b + c + d + 4) (b + 1) (b + c + 2) (b + c + d + 3) (c + 1) (c + d + 2) (d + 1)) = LL at *
  generalize gq2_0 (gpV a b c d) (a + 1) (a + b + 2) (a + b + c + 3) (a + b + c + d + 4) (b + 1) (b + c + 2) (b + c + d + 3) (c + 1) (c + d + 2) (d + 1) = y0 at *
  generalize gq2_1 (gpV a b c d) (a + 1) (a + b + 2) (a + b + c + 3) (a + b + c + d + 4) (b + 1) (b + c + 2) (b + c + d + 3) (c + 1) (c + d + 2) (d + 1) = y1 at *
  generalize gq2_2 (gpV a b c d) (a + 1) (a + b + 2) (a + b + c + 3) (a + b + c + d + 4) (b + 1) (b + c + 2) (b + c + d + 3) (c + 1) (c + d + 2) (d + 1) = y2 at *
  generalize gq2_3 (gpV a b c d) (a + 1) (a + b + 2) (a + b + c + 3) (a + b + c + d + 4) (b + 1) (b + c + 2) (b + c + d + 3) (c + 1) (c + d + 2) (d + 1) = y3 at *
  generalize gq2_4 (gpV a b c d) (a + 1) (a + b + 2) (a + b + c + 3) (a + b + c + d + 4) (b + 1) (b + c + 2) (b + c + d + 3) (c + 1) (c + d + 2) (d + 1) = y4 at *
  have G0 : 0 < GG := by
    rcases Nat.eq_zero_or_pos GG with z | z
    · rw [z] at k2
      have := Nat.mul_pos vp (show 0 < a + b + c + d + 4 by omega)
      omega
    · exact z
  have hr2 : ∀ k, 0 ≤ k → k < 5 → rwz 5 m d0 X W k = rzz 5 (zoz 5 X) (gpV a b c d) 2 (plz 5 X k) := fun k k0 k1 => by
    rw [hw k k0 k1, blz_z hi k0 k1, eV]
    rfl
  have hg : gwz 5 m d0 X W 5 ≠ 0 := fun z => by
    have zz : ∀ p, 0 ≤ p → p < 5 → rzz 5 (zoz 5 X) (gpV a b c d) 2 p = 0 := fun p p0 p1 => by
      obtain ⟨i0, i1, i2⟩ := ivz_s hi (p := p) p0 p1
      have e := hr2 _ i0 i1
      rw [i2, ← wtz_m i0 i1, z, Int.mul_zero] at e
      exact e.symm
    have z0 := zz 0 (by omega) (by omega)
    have z1 := zz 1 (by omega) (by omega)
    have z2 := zz 2 (by omega) (by omega)
    have z3' := zz 3 (by omega) (by omega)
    have z4 := zz 4 (by omega) (by omega)
    rw [r0] at z0
    rw [r1] at z1
    rw [r2] at z2
    rw [r3] at z3'
    rw [r4] at z4
    have := lz (by omega)
    omega
  have B := wsz_b (s := 26026) (G := GG) (V := gpV a b c d) (v := 60060) (by omega) hi G0 (by exact vp) hr2 (fun p p0 p1 => ?_) hg ?_ k2
  · have gg : GG ≤ (gwz 5 m d0 X W 5).natAbs := by
      have := B.2.1
      omega
    have g3 := Nat.mul_le_mul_left 60060 gg
    have e5 : spz X 0 5 = (((gpV a b c d) : Nat) : Int) := by
      rw [eV]
    refine ⟨hg, B.1, fun D hD => B.2.2 D (hD.trans e5), ?_⟩
    rw [e5]
    show ((gpV a b c d) : Nat) ≤ _
    omega
  · have cs : p = 0 ∨ p = 1 ∨ p = 2 ∨ p = 3 ∨ p = 4 := by omega
    rcases cs with rfl | rfl | rfl | rfl | rfl
    · rw [r0]
      exact Int.natCast_dvd_natCast.2 t0
    · rw [r1]
      exact Int.dvd_neg.2 (Int.natCast_dvd_natCast.2 t1)
    · rw [r2]
      exact Int.natCast_dvd_natCast.2 t2
    · rw [r3]
      exact Int.dvd_neg.2 (Int.natCast_dvd_natCast.2 t3)
    · rw [r4]
      exact Int.natCast_dvd_natCast.2 t4
  · show ((rzz 5 (zoz 5 X) (gpV a b c d) 2 0).natAbs : Int) + (((rzz 5 (zoz 5 X) (gpV a b c d) 2 1).natAbs : Int) + (((rzz 5 (zoz 5 X) (gpV a b c d) 2 2).natAbs : Int) + (((rzz 5 (zoz 5 X) (gpV a b c d) 2 3).natAbs : Int) + (((rzz 5 (zoz 5 X) (gpV a b c d) 2 4).natAbs : Int) + 0)))) ≤ _
    rw [r0, r1, r2, r3, r4]
    omega
theorem five_1 (hi : Inj 5 X) (hr : Rz 5 (-9) 9 X) (hw : ∀ k, 0 ≤ k → k < 5 → rwz 5 m d0 X W k = blz 5 X 1 k) : gwz 5 m d0 X W 5 ≠ 0 ∧ wsz 5 (wtz 5 m d0 X W) ≤ 494 ∧ (∀ D : Int, D * gwz 5 m d0 X W 5 = spz X 0 5 → D.natAbs ≤ 1275458400) ∧ (spz X 0 5).natAbs ≤ 1275458400 * (gwz 5 m d0 X W 5).natAbs := by
  obtain ⟨a, b, c, d, a1, b1, c1, d1, e1, e2, e3, e4, eV⟩ := gaps5 hi hr
  obtain ⟨k1, k2⟩ := gck_s (gqc1 a a1 b b1 c c1 d d1)
  have vp := gpV_p a b c d
  have h01 : zoz 5 X 1 - zoz 5 X 0 = ((a + 1 : Nat) : Int) := by omega
  have g01 : zoz 5 X 0 - zoz 5 X 1 = -((a + 1 : Nat) : Int) := by omega
  have h02 : zoz 5 X 2 - zoz 5 X 0 = ((a + b + 2 : Nat) : Int) := by omega
  have g02 : zoz 5 X 0 - zoz 5 X 2 = -((a + b + 2 : Nat) : Int) := by omega
  have h03 : zoz 5 X 3 - zoz 5 X 0 = ((a + b + c + 3 : Nat) : Int) := by omega
  have g03 : zoz 5 X 0 - zoz 5 X 3 = -((a + b + c + 3 : Nat) : Int) := by omega
  have h04 : zoz 5 X 4 - zoz 5 X 0 = ((a + b + c + d + 4 : Nat) : Int) := by omega
  have g04 : zoz 5 X 0 - zoz 5 X 4 = -((a + b + c + d + 4 : Nat) : Int) := by omega
  have h12 : zoz 5 X 2 - zoz 5 X 1 = ((b + 1 : Nat) : Int) := by omega
  have g12 : zoz 5 X 1 - zoz 5 X 2 = -((b + 1 : Nat) : Int) := by omega
  have h13 : zoz 5 X 3 - zoz 5 X 1 = ((b + c + 2 : Nat) : Int) := by omega
  have g13 : zoz 5 X 1 - zoz 5 X 3 = -((b + c + 2 : Nat) : Int) := by omega
  have h14 : zoz 5 X 4 - zoz 5 X 1 = ((b + c + d + 3 : Nat) : Int) := by omega
  have g14 : zoz 5 X 1 - zoz 5 X 4 = -((b + c + d + 3 : Nat) : Int) := by omega
  have h23 : zoz 5 X 3 - zoz 5 X 2 = ((c + 1 : Nat) : Int) := by omega
  have g23 : zoz 5 X 2 - zoz 5 X 3 = -((c + 1 : Nat) : Int) := by omega
  have h24 : zoz 5 X 4 - zoz 5 X 2 = ((c + d + 2 : Nat) : Int) := by omega
  have g24 : zoz 5 X 2 - zoz 5 X 4 = -((c + d + 2 : Nat) : Int) := by omega
  have h34 : zoz 5 X 4 - zoz 5 X 3 = ((d + 1 : Nat) : Int) := by omega
  have g34 : zoz 5 X 3 - zoz 5 X 4 = -((d + 1 : Nat) : Int) := by omega
  have r0 := rz1_0 (Z := zoz 5 X) (V := gpV a b c d) h01 g01 h02 g02 h03 g03 h04 g04 h12 g12 h13 g13 h14 g14 h23 g23 h24 g24 h34 g34
  have r1 := rz1_1 (Z := zoz 5 X) (V := gpV a b c d) h01 g01 h02 g02 h03 g03 h04 g04 h12 g12 h13 g13 h14 g14 h23 g23 h24 g24 h34 g34
  have r2 := rz1_2 (Z := zoz 5 X) (V := gpV a b c d) h01 g01 h02 g02 h03 g03 h04 g04 h12 g12 h13 g13 h14 g14 h23 g23 h24 g24 h34 g34
  have r3 := rz1_3 (Z := zoz 5 X) (V := gpV a b c d) h01 g01 h02 g02 h03 g03 h04 g04 h12 g12 h13 g13 h14 g14 h23 g23 h24 g24 h34 g34
  have r4 := rz1_4 (Z := zoz 5 X) (V := gpV a b c d) h01 g01 h02 g02 h03 g03 h04 g04 h12 g12 h13 g13 h14 g14 h23 g23 h24 g24 h34 g34
  have q0 : gq1_0 (gpV a b c d) (a + 1) (a + b + 2) (a + b + c + 3) (a + b + c + d + 4) (b + 1) (b + c + 2) (b + c + d + 3) (c + 1) (c + d + 2) (d + 1) ∈ gq1 (gpV a b c d) (a + 1) (a + b + 2) (a + b + c + 3) (a + b + c + d + 4) (b + 1) (b + c + 2) (b + c + d + 3) (c + 1) (c + d + 2) (d + 1) := by simp [gq1]
  have q1 : gq1_1 (gpV a b c d) (a + 1) (a + b + 2) (a + b + c + 3) (a + b + c + d + 4) (b + 1) (b + c + 2) (b + c + d + 3) (c + 1) (c + d + 2) (d + 1) ∈ gq1 (gpV a b c d) (a + 1) (a + b + 2) (a + b + c + 3) (a + b + c + d + 4) (b + 1) (b + c + 2) (b + c + d + 3) (c + 1) (c + d + 2) (d + 1) := by simp [gq1]
  have q2 : gq1_2 (gpV a b c d) (a + 1) (a + b + 2) (a + b + c + 3) (a + b + c + d + 4) (b + 1) (b + c + 2) (b + c + d + 3) (c + 1) (c + d + 2) (d + 1) ∈ gq1 (gpV a b c d) (a + 1) (a + b + 2) (a + b + c + 3) (a + b + c + d + 4) (b + 1) (b + c + 2) (b + c + d + 3) (c + 1) (c + d + 2) (d + 1) := by simp [gq1]
  have q3 : gq1_3 (gpV a b c d) (a + 1) (a + b + 2) (a + b + c + 3) (a + b + c + d + 4) (b + 1) (b + c + 2) (b + c + d + 3) (c + 1) (c + d + 2) (d + 1) ∈ gq1 (gpV a b c d) (a + 1) (a + b + 2) (a + b + c + 3) (a + b + c + d + 4) (b + 1) (b + c + 2) (b + c + d + 3) (c + 1) (c + d + 2) (d + 1) := by simp [gq1]
  have q4 : gq1_4 (gpV a b c d) (a + 1) (a + b + 2) (a + b + c + 3) (a + b + c + d + 4) (b + 1) (b + c + 2) (b + c + d + 3) (c + 1) (c + d + 2) (d + 1) ∈ gq1 (gpV a b c d) (a + 1) (a + b + 2) (a + b + c + 3) (a + b + c + d + 4) (b + 1) (b + c + 2) (b + c + d + 3) (c + 1) (c + d + 2) (d + 1) := by simp [gq1]
  have dv := fun x hx => lgcd_d (gq1 (gpV a b c d) (a + 1) (a + b + 2) (a + b + c + 3) (a + b + c + d + 4) (b + 1) (b + c + 2) (b + c + d + 3) (c + 1) (c + d + 2) (d + 1)) x hx
  have ls : lsum (gq1 (gpV a b c d) (a + 1) (a + b + 2) (a + b + c + 3) (a + b + c + d + 4) (b + 1) (b + c + 2) (b + c + d + 3) (c + 1) (c + d + 2) (d + 1)) = gq1_0 (gpV a b c d) (a + 1) (a + b + 2) (a + b + c + 3) (a + b + c + d + 4) (b + 1) (b + c + 2) (b + c + d + 3) (c + 1) (c + d + 2) (d + 1) + gq1_1 (gpV a b c d) (a + 1) (a + b + 2) (a + b + c + 3) (a + b + c + d + 4) (b + 1) (b + c + 2) (b + c + d + 3) (c + 1) (c + d + 2) (d + 1) + gq1_2 (gpV a b c d) (a + 1) (a + b + 2) (a + b + c + 3) (a + b + c + d + 4) (b + 1) (b + c + 2) (b + c + d + 3) (c + 1) (c + d + 2) (d + 1) + gq1_3 (gpV a b c d) (a + 1) (a + b + 2) (a + b + c + 3) (a + b + c + d + 4) (b + 1) (b + c + 2) (b + c + d + 3) (c + 1) (c + d + 2) (d + 1) + gq1_4 (gpV a b c d) (a + 1) (a + b + 2) (a + b + c + 3) (a + b + c + d + 4) (b + 1) (b + c + 2) (b + c + d + 3) (c + 1) (c + d + 2) (d + 1) := by
    show _ + (_ + (_ + (_ + (_ + 0)))) = _
    omega
  have lz := lgcd_0 (gq1 (gpV a b c d) (a + 1) (a + b + 2) (a + b + c + 3) (a + b + c + d + 4) (b + 1) (b + c + 2) (b + c + d + 3) (c + 1) (c + d + 2) (d + 1))
  have t0 := dv _ q0
  have t1 := dv _ q1
  have t2 := dv _ q2
  have t3 := dv _ q3
  have t4 := dv _ q4
  generalize lgcd (gq1 (gpV a b c d) (a + 1) (a + b + 2) (a + b + c + 3) (a + b + c + d + 4) (b + 1) (b + c + 2) (b + c + d + 3) (c + 1) (c + d + 2) (d + 1)) = GG at *
  generalize lsum (gq1 (gpV a b c d) (a + 1) (a + b + 2) (a + b + c + 3) (a + b + c + d + 4) (b + 1) (b + c + 2) (b + c + d + 3) (c + 1) (c + d + 2) (d + 1)) = LL at *
  generalize gq1_0 (gpV a b c d) (a + 1) (a + b + 2) (a + b + c + 3) (a + b + c + d + 4) (b + 1) (b + c + 2) (b + c + d + 3) (c + 1) (c + d + 2) (d + 1) = y0 at *
  generalize gq1_1 (gpV a b c d) (a + 1) (a + b + 2) (a + b + c + 3) (a + b + c + d + 4) (b + 1) (b + c + 2) (b + c + d + 3) (c + 1) (c + d + 2) (d + 1) = y1 at *
  generalize gq1_2 (gpV a b c d) (a + 1) (a + b + 2) (a + b + c + 3) (a + b + c + d + 4) (b + 1) (b + c + 2) (b + c + d + 3) (c + 1) (c + d + 2) (d + 1) = y2 at *
  generalize gq1_3 (gpV a b c d) (a + 1) (a + b + 2) (a + b + c + 3) (a + b + c + d + 4) (b + 1) (b + c + 2) (b + c + d + 3) (c + 1) (c + d + 2) (d + 1) = y3 at *
  generalize gq1_4 (gpV a b c d) (a + 1) (a + b + 2) (a + b + c + 3) (a + b + c + d + 4) (b + 1) (b + c + 2) (b + c + d + 3) (c + 1) (c + d + 2) (d + 1) = y4 at *
  have G0 : 0 < GG := by
    rcases Nat.eq_zero_or_pos GG with z | z
    · rw [z] at k2
      have := Nat.mul_pos vp (show 0 < a + b + c + d + 4 by omega)
      omega
    · exact z
  have hr2 : ∀ k, 0 ≤ k → k < 5 → rwz 5 m d0 X W k = rzz 5 (zoz 5 X) (gpV a b c d) 1 (plz 5 X k) := fun k k0 k1 => by
    rw [hw k k0 k1, blz_z hi k0 k1, eV]
    rfl
  have hg : gwz 5 m d0 X W 5 ≠ 0 := fun z => by
    have zz : ∀ p, 0 ≤ p → p < 5 → rzz 5 (zoz 5 X) (gpV a b c d) 1 p = 0 := fun p p0 p1 => by
      obtain ⟨i0, i1, i2⟩ := ivz_s hi (p := p) p0 p1
      have e := hr2 _ i0 i1
      rw [i2, ← wtz_m i0 i1, z, Int.mul_zero] at e
      exact e.symm
    have z0 := zz 0 (by omega) (by omega)
    have z1 := zz 1 (by omega) (by omega)
    have z2 := zz 2 (by omega) (by omega)
    have z3' := zz 3 (by omega) (by omega)
    have z4 := zz 4 (by omega) (by omega)
    rw [r0] at z0
    rw [r1] at z1
    rw [r2] at z2
    rw [r3] at z3'
    rw [r4] at z4
    have := lz (by omega)
    omega
  have B := wsz_b (s := 494) (G := GG) (V := gpV a b c d) (v := 1275458400) (by omega) hi G0 (by exact vp) hr2 (fun p p0 p1 => ?_) hg ?_ k2
  · have gg : GG ≤ (gwz 5 m d0 X W 5).natAbs := by
      have := B.2.1
      omega
    have g3 := Nat.mul_le_mul_left 1275458400 gg
    have e5 : spz X 0 5 = (((gpV a b c d) : Nat) : Int) := by
      rw [eV]
    refine ⟨hg, B.1, fun D hD => B.2.2 D (hD.trans e5), ?_⟩
    rw [e5]
    show ((gpV a b c d) : Nat) ≤ _
    omega
  · have cs : p = 0 ∨ p = 1 ∨ p = 2 ∨ p = 3 ∨ p = 4 := by omega
    rcases cs with rfl | rfl | rfl | rfl | rfl
    · rw [r0]
      exact Int.dvd_neg.2 (Int.natCast_dvd_natCast.2 t0)
    · rw [r1]
      exact Int.natCast_dvd_natCast.2 t1
    · rw [r2]
      exact Int.dvd_neg.2 (Int.natCast_dvd_natCast.2 t2)
    · rw [r3]
      exact Int.natCast_dvd_natCast.2 t3
    · rw [r4]
      exact Int.dvd_neg.2 (Int.natCast_dvd_natCast.2 t4)
  · show ((rzz 5 (zoz 5 X) (gpV a b c d) 1 0).natAbs : Int) + (((rzz 5 (zoz 5 X) (gpV a b c d) 1 1).natAbs : Int) + (((rzz 5 (zoz 5 X) (gpV a b c d) 1 2).natAbs : Int) + (((rzz 5 (zoz 5 X) (gpV a b c d) 1 3).natAbs : Int) + (((rzz 5 (zoz 5 X) (gpV a b c d) 1 4).natAbs : Int) + 0)))) ≤ _
    rw [r0, r1, r2, r3, r4]
    omega
end FIV
