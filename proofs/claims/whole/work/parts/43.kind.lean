/-! Bounds; the kind at a whole number and the value, on both sides. -/
theorem gap5 : ∀ a, a < 15 → ∀ b, b < 15 - a → ∀ c, c < 15 - a - b → ∀ d, d < 15 - a - b - c → (a + 1) * (b + 1) * (c + 1) * (d + 1) * (a + b + 2) * (b + c + 2) * (c + d + 2) * (a + b + c + 3) * (b + c + d + 3) * (a + b + c + d + 4) ≤ 1275458400 := by decide +kernel
theorem spz_g {Z : Int → Int} (h : ∀ p q, 0 ≤ p → p < q → q < 5 → Z p < Z q) (h2 : Z 4 - Z 0 ≤ 18) : vdz Z 5 ≤ 1275458400 := by
  have g1 := h 0 1 (by omega) (by omega) (by omega)
  have g2 := h 1 2 (by omega) (by omega) (by omega)
  have g3 := h 2 3 (by omega) (by omega) (by omega)
  have g4 := h 3 4 (by omega) (by omega) (by omega)
  obtain ⟨a, ha⟩ : ∃ a : Nat, Z 1 = Z 0 + (a + 1) := ⟨(Z 1 - Z 0 - 1).toNat, by omega⟩
  obtain ⟨b, hb⟩ : ∃ b : Nat, Z 2 = Z 1 + (b + 1) := ⟨(Z 2 - Z 1 - 1).toNat, by omega⟩
  obtain ⟨c, hc⟩ : ∃ c : Nat, Z 3 = Z 2 + (c + 1) := ⟨(Z 3 - Z 2 - 1).toNat, by omega⟩
  obtain ⟨d, hd⟩ : ∃ d : Nat, Z 4 = Z 3 + (d + 1) := ⟨(Z 4 - Z 3 - 1).toNat, by omega⟩
  have k := gap5 a (by omega) b (by omega) c (by omega) d (by omega)
  show 1 * (((Z 1 - Z 0).natAbs : Int) * 1 * (((Z 2 - Z 0).natAbs : Int) * (((Z 2 - Z 1).natAbs : Int) * 1) * ((((Z 3 - Z 0).natAbs : Int) * (((Z 3 - Z 1).natAbs : Int) * (((Z 3 - Z 2).natAbs : Int) * 1))) * ((((Z 4 - Z 0).natAbs : Int) * (((Z 4 - Z 1).natAbs : Int) * (((Z 4 - Z 2).natAbs : Int) * (((Z 4 - Z 3).natAbs : Int) * 1)))) * 1)))) ≤ _
  sorry
theorem woz_b {X : Int → Int} {C k x : Int} (h0 : 0 ≤ C) (h5 : C ≤ 5) (hr : Rz C (-9) 9 X) (k0 : 0 ≤ k) (k1 : k < C) (x0 : -12 ≤ x) (x1 : x ≤ 12) : (woz X k x C.toNat).natAbs ≤ 194481 := by
  sorry
theorem swz_b {X : Int → Int} {C k x : Int} (h0 : 0 ≤ C) (h5 : C ≤ 5) (hr : Rz C (-9) 9 X) (k0 : 0 ≤ k) (k1 : k < C) (x0 : -12 ≤ x) (x1 : x ≤ 12) : (swz X k x C.toNat).natAbs ≤ 46305 := by
  sorry
