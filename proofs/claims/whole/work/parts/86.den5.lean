/-! Five points: the denominator and its slope. -/
theorem gpV_e (a b c d : Nat) : gpV a b c d = (a + 1) * (a + b + 2) * (a + b + c + 3) * (a + b + c + d + 4) * (b + 1) * (b + c + 2) * (b + c + d + 3) * (c + 1) * (c + d + 2) * (d + 1) := by
  unfold gpV
  generalize a + 1 = x1
  generalize b + 1 = x2
  generalize c + 1 = x3
  generalize d + 1 = x4
  generalize a + b + 2 = x5
  generalize b + c + 2 = x6
  generalize c + d + 2 = x7
  generalize a + b + c + 3 = x8
  generalize b + c + d + 3 = x9
  generalize a + b + c + d + 4 = x10
  simp only [Nat.mul_assoc, Nat.mul_comm, Nat.mul_left_comm]
section DN5
variable {m d0 : Int} {X W : Int → Int}
theorem twd_4 (hi : Inj 5 X) (hr : Rz 5 (-9) 9 X) {k : Int} (k0 : 0 ≤ k) (k1 : k < 5) : blz 5 X 4 k * ozz 5 X k = spz X 0 5 * onW 4 (zoz 5 X) (X k) := by
  obtain ⟨a, b, c, d, a1, b1, c1, d1, e1, e2, e3, e4, eV⟩ := gaps5 hi hr
  have hV := gpV_e a b c d
  have h01 : zoz 5 X 1 - zoz 5 X 0 = ((a + 1 : Nat) : Int) := by omega
  have g01 : zoz 5 X 0 - zoz 5 X 1 = -((a + 1 : Nat) : Int) := by omega
  have h02 : zoz 5 X 2 - zoz 5 X 0 = ((a + b + 2 : Nat) : Int) := by omega
  have g02 : zoz 5 X 0 - zoz 5 X 2 = -((a + b + 2 : Nat) : Int) := by omega
  have h03 : zoz 5 X 3 - zoz 5 X 0 = ((a + b + c + 3 : Nat) : Int) := by omega
  have g03 : zoz 5 X 0 - zoz 5 X 3 = -((a + b + c + 3 : Nat) : Int) := by omega
  have h04 : zoz 5 X 4 - zoz 5 X 0 = ((a + b + c + d + 4 : Nat) : Int) := by omega
  have g04 : zoz 5 X 0 - zoz 5 X 4 = -((a + b + c + d + 4 : Nat) : Int) := by omega
  have h12 : zoz 5 X 2 - zoz 5 X 1 = ((b + 1 : Nat) : Int) := by omega
  have g12 : zoz 5 X 1 - zoz 5 X 2 = -((b + 1 : Nat) : Int) := by omega
  have h13 : zoz 5 X 3 - zoz 5 X 1 = ((b + c + 2 : Nat) : Int) := by omega
  have g13 : zoz 5 X 1 - zoz 5 X 3 = -((b + c + 2 : Nat) : Int) := by omega
  have h14 : zoz 5 X 4 - zoz 5 X 1 = ((b + c + d + 3 : Nat) : Int) := by omega
  have g14 : zoz 5 X 1 - zoz 5 X 4 = -((b + c + d + 3 : Nat) : Int) := by omega
  have h23 : zoz 5 X 3 - zoz 5 X 2 = ((c + 1 : Nat) : Int) := by omega
  have g23 : zoz 5 X 2 - zoz 5 X 3 = -((c + 1 : Nat) : Int) := by omega
  have h24 : zoz 5 X 4 - zoz 5 X 2 = ((c + d + 2 : Nat) : Int) := by omega
  have g24 : zoz 5 X 2 - zoz 5 X 4 = -((c + d + 2 : Nat) : Int) := by omega
  have h34 : zoz 5 X 4 - zoz 5 X 3 = ((d + 1 : Nat) : Int) := by omega
  have g34 : zoz 5 X 3 - zoz 5 X 4 = -((d + 1 : Nat) : Int) := by omega
  have xk : X k = zoz 5 X (plz 5 X k) := by
    unfold zoz
    rw [ivz_p hi k0 k1]
  have oz : ozz 5 X k = pdz (fun q => if q = plz 5 X k then 1 else zoz 5 X (plz 5 X k) - zoz 5 X q) 5 0 := by
    rw [← dsz_o hi k0 k1, ← xk]
    rfl
  have bz : blz 5 X 4 k = rzz 5 (zoz 5 X) (gpV a b c d) 4 (plz 5 X k) := by
    rw [blz_z hi k0 k1, eV]
    rfl
  have p0 := plz_ge 5 X k
  have p1 := plz_r (X := X) k0 k1
  rw [bz, oz, xk, eV]
  generalize plz 5 X k = p at *
  have cs : p = 0 ∨ p = 1 ∨ p = 2 ∨ p = 3 ∨ p = 4 := by omega
  rcases cs with rfl | rfl | rfl | rfl | rfl
  · exact to4_0 h01 g01 h02 g02 h03 g03 h04 g04 h12 g12 h13 g13 h14 g14 h23 g23 h24 g24 h34 g34 hV
  · exact to4_1 h01 g01 h02 g02 h03 g03 h04 g04 h12 g12 h13 g13 h14 g14 h23 g23 h24 g24 h34 g34 hV
  · exact to4_2 h01 g01 h02 g02 h03 g03 h04 g04 h12 g12 h13 g13 h14 g14 h23 g23 h24 g24 h34 g34 hV
  · exact to4_3 h01 g01 h02 g02 h03 g03 h04 g04 h12 g12 h13 g13 h14 g14 h23 g23 h24 g24 h34 g34 hV
  · exact to4_4 h01 g01 h02 g02 h03 g03 h04 g04 h12 g12 h13 g13 h14 g14 h23 g23 h24 g24 h34 g34 hV
theorem twd_3 (hi : Inj 5 X) (hr : Rz 5 (-9) 9 X) {k : Int} (k0 : 0 ≤ k) (k1 : k < 5) : blz 5 X 3 k * ozz 5 X k = spz X 0 5 * onW 3 (zoz 5 X) (X k) := by
  obtain ⟨a, b, c, d, a1, b1, c1, d1, e1, e2, e3, e4, eV⟩ := gaps5 hi hr
  have hV := gpV_e a b c d
  have h01 : zoz 5 X 1 - zoz 5 X 0 = ((a + 1 : Nat) : Int) := by omega
  have g01 : zoz 5 X 0 - zoz 5 X 1 = -((a + 1 : Nat) : Int) := by omega
  have h02 : zoz 5 X 2 - zoz 5 X 0 = ((a + b + 2 : Nat) : Int) := by omega
  have g02 : zoz 5 X 0 - zoz 5 X 2 = -((a + b + 2 : Nat) : Int) := by omega
  have h03 : zoz 5 X 3 - zoz 5 X 0 = ((a + b + c + 3 : Nat) : Int) := by omega
  have g03 : zoz 5 X 0 - zoz 5 X 3 = -((a + b + c + 3 : Nat) : Int) := by omega
  have h04 : zoz 5 X 4 - zoz 5 X 0 = ((a + b + c + d + 4 : Nat) : Int) := by omega
  have g04 : zoz 5 X 0 - zoz 5 X 4 = -((a + b + c + d + 4 : Nat) : Int) := by omega
  have h12 : zoz 5 X 2 - zoz 5 X 1 = ((b + 1 : Nat) : Int) := by omega
  have g12 : zoz 5 X 1 - zoz 5 X 2 = -((b + 1 : Nat) : Int) := by omega
  have h13 : zoz 5 X 3 - zoz 5 X 1 = ((b + c + 2 : Nat) : Int) := by omega
  have g13 : zoz 5 X 1 - zoz 5 X 3 = -((b + c + 2 : Nat) : Int) := by omega
  have h14 : zoz 5 X 4 - zoz 5 X 1 = ((b + c + d + 3 : Nat) : Int) := by omega
  have g14 : zoz 5 X 1 - zoz 5 X 4 = -((b + c + d + 3 : Nat) : Int) := by omega
  have h23 : zoz 5 X 3 - zoz 5 X 2 = ((c + 1 : Nat) : Int) := by omega
  have g23 : zoz 5 X 2 - zoz 5 X 3 = -((c + 1 : Nat) : Int) := by omega
  have h24 : zoz 5 X 4 - zoz 5 X 2 = ((c + d + 2 : Nat) : Int) := by omega
  have g24 : zoz 5 X 2 - zoz 5 X 4 = -((c + d + 2 : Nat) : Int) := by omega
  have h34 : zoz 5 X 4 - zoz 5 X 3 = ((d + 1 : Nat) : Int) := by omega
  have g34 : zoz 5 X 3 - zoz 5 X 4 = -((d + 1 : Nat) : Int) := by omega
  have xk : X k = zoz 5 X (plz 5 X k) := by
    unfold zoz
    rw [ivz_p hi k0 k1]
  have oz : ozz 5 X k = pdz (fun q => if q = plz 5 X k then 1 else zoz 5 X (plz 5 X k) - zoz 5 X q) 5 0 := by
    rw [← dsz_o hi k0 k1, ← xk]
    rfl
  have bz : blz 5 X 3 k = rzz 5 (zoz 5 X) (gpV a b c d) 3 (plz 5 X k) := by
    rw [blz_z hi k0 k1, eV]
    rfl
  have p0 := plz_ge 5 X k
  have p1 := plz_r (X := X) k0 k1
  rw [bz, oz, xk, eV]
  generalize plz 5 X k = p at *
  have cs : p = 0 ∨ p = 1 ∨ p = 2 ∨ p = 3 ∨ p = 4 := by omega
  rcases cs with rfl | rfl | rfl | rfl | rfl
  · exact to3_0 h01 g01 h02 g02 h03 g03 h04 g04 h12 g12 h13 g13 h14 g14 h23 g23 h24 g24 h34 g34 hV
  · exact to3_1 h01 g01 h02 g02 h03 g03 h04 g04 h12 g12 h13 g13 h14 g14 h23 g23 h24 g24 h34 g34 hV
  · exact to3_2 h01 g01 h02 g02 h03 g03 h04 g04 h12 g12 h13 g13 h14 g14 h23 g23 h24 g24 h34 g34 hV
  · exact to3_3 h01 g01 h02 g02 h03 g03 h04 g04 h12 g12 h13 g13 h14 g14 h23 g23 h24 g24 h34 g34 hV
  · exact to3_4 h01 g01 h02 g02 h03 g03 h04 g04 h12 g12 h13 g13 h14 g14 h23 g23 h24 g24 h34 g34 hV
theorem twd_2 (hi : Inj 5 X) (hr : Rz 5 (-9) 9 X) {k : Int} (k0 : 0 ≤ k) (k1 : k < 5) : blz 5 X 2 k * ozz 5 X k = spz X 0 5 * onW 2 (zoz 5 X) (X k) := by
  obtain ⟨a, b, c, d, a1, b1, c1, d1, e1, e2, e3, e4, eV⟩ := gaps5 hi hr
  have hV := gpV_e a b c d
  have h01 : zoz 5 X 1 - zoz 5 X 0 = ((a + 1 : Nat) : Int) := by omega
  have g01 : zoz 5 X 0 - zoz 5 X 1 = -((a + 1 : Nat) : Int) := by omega
  have h02 : zoz 5 X 2 - zoz 5 X 0 = ((a + b + 2 : Nat) : Int) := by omega
  have g02 : zoz 5 X 0 - zoz 5 X 2 = -((a + b + 2 : Nat) : Int) := by omega
  have h03 : zoz 5 X 3 - zoz 5 X 0 = ((a + b + c + 3 : Nat) : Int) := by omega
  have g03 : zoz 5 X 0 - zoz 5 X 3 = -((a + b + c + 3 : Nat) : Int) := by omega
  have h04 : zoz 5 X 4 - zoz 5 X 0 = ((a + b + c + d + 4 : Nat) : Int) := by omega
  have g04 : zoz 5 X 0 - zoz 5 X 4 = -((a + b + c + d + 4 : Nat) : Int) := by omega
  have h12 : zoz 5 X 2 - zoz 5 X 1 = ((b + 1 : Nat) : Int) := by omega
  have g12 : zoz 5 X 1 - zoz 5 X 2 = -((b + 1 : Nat) : Int) := by omega
  have h13 : zoz 5 X 3 - zoz 5 X 1 = ((b + c + 2 : Nat) : Int) := by omega
  have g13 : zoz 5 X 1 - zoz 5 X 3 = -((b + c + 2 : Nat) : Int) := by omega
  have h14 : zoz 5 X 4 - zoz 5 X 1 = ((b + c + d + 3 : Nat) : Int) := by omega
  have g14 : zoz 5 X 1 - zoz 5 X 4 = -((b + c + d + 3 : Nat) : Int) := by omega
  have h23 : zoz 5 X 3 - zoz 5 X 2 = ((c + 1 : Nat) : Int) := by omega
  have g23 : zoz 5 X 2 - zoz 5 X 3 = -((c + 1 : Nat) : Int) := by omega
  have h24 : zoz 5 X 4 - zoz 5 X 2 = ((c + d + 2 : Nat) : Int) := by omega
  have g24 : zoz 5 X 2 - zoz 5 X 4 = -((c + d + 2 : Nat) : Int) := by omega
  have h34 : zoz 5 X 4 - zoz 5 X 3 = ((d + 1 : Nat) : Int) := by omega
  have g34 : zoz 5 X 3 - zoz 5 X 4 = -((d + 1 : Nat) : Int) := by omega
  have xk : X k = zoz 5 X (plz 5 X k) := by
    unfold zoz
    rw [ivz_p hi k0 k1]
  have oz : ozz 5 X k = pdz (fun q => if q = plz 5 X k then 1 else zoz 5 X (plz 5 X k) - zoz 5 X q) 5 0 := by
    rw [← dsz_o hi k0 k1, ← xk]
    rfl
  have bz : blz 5 X 2 k = rzz 5 (zoz 5 X) (gpV a b c d) 2 (plz 5 X k) := by
    rw [blz_z hi k0 k1, eV]
    rfl
  have p0 := plz_ge 5 X k
  have p1 := plz_r (X := X) k0 k1
  rw [bz, oz, xk, eV]
  generalize plz 5 X k = p at *
  have cs : p = 0 ∨ p = 1 ∨ p = 2 ∨ p = 3 ∨ p = 4 := by omega
  rcases cs with rfl | rfl | rfl | rfl | rfl
  · exact to2_0 h01 g01 h02 g02 h03 g03 h04 g04 h12 g12 h13 g13 h14 g14 h23 g23 h24 g24 h34 g34 hV
  · exact to2_1 h01 g01 h02 g02 h03 g03 h04 g04 h12 g12 h13 g13 h14 g14 h23 g23 h24 g24 h34 g34 hV
  · exact to2_2 h01 g01 h02 g02 h03 g03 h04 g04 h12 g12 h13 g13 h14 g14 h23 g23 h24 g24 h34 g34 hV
  · exact to2_3 h01 g01 h02 g02 h03 g03 h04 g04 h12 g12 h13 g13 h14 g14 h23 g23 h24 g24 h34 g34 hV
  · exact to2_4 h01 g01 h02 g02 h03 g03 h04 g04 h12 g12 h13 g13 h14 g14 h23 g23 h24 g24 h34 g34 hV
/-- its slope -/
def onD (w : Int) (Z : Int → Int) (x : Int) : Int := if w = 4 then 0 else if w = 3 then 0 else 2 * x - Z 3 - Z 1
def owc (w V : Int) (Z : Int → Int) (p : Int) : Int := if w = 4 then V * onz p else if w = 3 then V * (Z 0 - Z 4) * onz p else V * (if p = 0 then Z 3 * Z 4 - Z 0 * Z 4 + Z 0 * Z 1 else if p = 1 then -Z 3 - Z 1 else if p = 2 then 1 else 0)
theorem owc_v {w : Int} (hw : w = 4 ∨ w = 3 ∨ w = 2) (V : Int) (Z : Int → Int) (x : Int) : evz (owc w V Z) x = V * onW w Z x ∧ dvz (owc w V Z) x = V * onD w Z x := by
  rcases hw with rfl | rfl | rfl
  · have h0 : owc 4 V Z 0 = V * 1 := rfl
    have h1 : owc 4 V Z 1 = V * 0 := rfl
    have h2 : owc 4 V Z 2 = V * 0 := rfl
    have h3 : owc 4 V Z 3 = V * 0 := rfl
    have h4 : owc 4 V Z 4 = V * 0 := rfl
    have e : onW 4 Z x = 1 := rfl
    have f : onD 4 Z x = 0 := rfl
    unfold evz dvz
    rw [h0, h1, h2, h3, h4, e, f]
    grind
  · have h0 : owc 3 V Z 0 = V * (Z 0 - Z 4) * 1 := rfl
    have h1 : owc 3 V Z 1 = V * (Z 0 - Z 4) * 0 := rfl
    have h2 : owc 3 V Z 2 = V * (Z 0 - Z 4) * 0 := rfl
    have h3 : owc 3 V Z 3 = V * (Z 0 - Z 4) * 0 := rfl
    have h4 : owc 3 V Z 4 = V * (Z 0 - Z 4) * 0 := rfl
    have e : onW 3 Z x = Z 0 - Z 4 := rfl
    have f : onD 3 Z x = 0 := rfl
    unfold evz dvz
    rw [h0, h1, h2, h3, h4, e, f]
    grind
  · have h0 : owc 2 V Z 0 = V * (Z 3 * Z 4 - Z 0 * Z 4 + Z 0 * Z 1) := rfl
    have h1 : owc 2 V Z 1 = V * (-Z 3 - Z 1) := rfl
    have h2 : owc 2 V Z 2 = V * 1 := rfl
    have h3 : owc 2 V Z 3 = V * 0 := rfl
    have h4 : owc 2 V Z 4 = V * 0 := rfl
    have e : onW 2 Z x = (x - Z 3) * (x - Z 4) - (x - Z 0) * (x - Z 4) + (x - Z 0) * (x - Z 1) := rfl
    have f : onD 2 Z x = 2 * x - Z 3 - Z 1 := rfl
    unfold evz dvz
    rw [h0, h1, h2, h3, h4, e, f]
    grind
/-- the denominator of five points, times the divisor -/
theorem den5 {w : Int} (hw : w = 4 ∨ w = 3 ∨ w = 2) (hi : Inj 5 X) (hr : Rz 5 (-9) 9 X) (hb : ∀ k, 0 ≤ k → k < 5 → rwz 5 m d0 X W k = blz 5 X w k) (Y : Int → Int) (x : Int) :
    nmv 5 X Y (wtz 5 m d0 X W) x 1 * gwz 5 m d0 X W 5 = spz X 0 5 * onW w (zoz 5 X) x ∧ smv 5 X Y (wtz 5 m d0 X W) x 1 * gwz 5 m d0 X W 5 = spz X 0 5 * onD w (zoz 5 X) x := by
  have T : ∀ k, 0 ≤ k → k < 5 → rwz 5 m d0 X W k * ozz 5 X k = evz (owc w (spz X 0 5) (zoz 5 X)) (X k) := fun k k0 k1 => by
    rw [hb k k0 k1, (owc_v hw _ _ _).1]
    rcases hw with rfl | rfl | rfl
    · exact twd_4 hi hr k0 k1
    · exact twd_3 hi hr k0 k1
    · exact twd_2 hi hr k0 k1
  have L := lagrR (C := 5) (X := X) (T := rwz 5 m d0 X W) (r := owc w (spz X 0 5) (zoz 5 X)) (by omega) (by omega) hi (fun p p0 p1 => by omega) T x
  rw [(owc_v hw _ _ _).1, (owc_v hw _ _ _).2] at L
  rw [← L.1, ← L.2]
  unfold nmv smv
  rw [Tz1]
  unfold plv dlv
  rw [Int.mul_comm, ← smz_m, Int.mul_comm, ← smz_m]
  refine ⟨smz_c _ _ (fun k k0 k1 => ?_), smz_c _ _ (fun k k0 k1 => ?_)⟩
  · rw [← wtz_m (m := m) (d := d0) (X := X) (W := W) (C := 5) k0 (by omega)]
    grind
  · rw [← wtz_m (m := m) (d := d0) (X := X) (W := W) (C := 5) k0 (by omega)]
    grind
end DN5
