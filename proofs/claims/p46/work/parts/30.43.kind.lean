/-! Bounds; the kind at a whole number and the value, on both sides. -/
theorem gap5 : ∀ a, a < 15 → ∀ b, b < 15 - a → ∀ c, c < 15 - a - b → ∀ d, d < 15 - a - b - c → (a + 1) * (b + 1) * (c + 1) * (d + 1) * (a + b + 2) * (b + c + 2) * (c + d + 2) * (a + b + c + 3) * (b + c + d + 3) * (a + b + c + d + 4) ≤ 1275458400 := by decide +kernel
theorem spz_g {Z : Int → Int} (h : ∀ p q, 0 ≤ p → p < q → q < 5 → Z p < Z q) (h2 : Z 4 - Z 0 ≤ 18) : vdz Z 5 ≤ 1275458400 := by
  have g1 := h 0 1 (by omega) (by omega) (by omega)
  have g2 := h 1 2 (by omega) (by omega) (by omega)
  have g3 := h 2 3 (by omega) (by omega) (by omega)
  have g4 := h 3 4 (by omega) (by omega) (by omega)
  obtain ⟨a, ha⟩ : ∃ a : Nat, Z 1 = Z 0 + (a + 1) := ⟨(Z 1 - Z 0 - 1).toNat, by omega⟩
  obtain ⟨b, hb⟩ : ∃ b : Nat, Z 2 = Z 1 + (b + 1) := ⟨(Z 2 - Z 1 - 1).toNat, by omega⟩
  obtain ⟨c, hc⟩ : ∃ c : Nat, Z 3 = Z 2 + (c + 1) := ⟨(Z 3 - Z 2 - 1).toNat, by omega⟩
  obtain ⟨d, hd⟩ : ∃ d : Nat, Z 4 = Z 3 + (d + 1) := ⟨(Z 4 - Z 3 - 1).toNat, by omega⟩
  have k := gap5 a (by omega) b (by omega) c (by omega) d (by omega)
  show 1 * (((Z 1 - Z 0).natAbs : Int) * 1 * (((Z 2 - Z 0).natAbs : Int) * (((Z 2 - Z 1).natAbs : Int) * 1) * ((((Z 3 - Z 0).natAbs : Int) * (((Z 3 - Z 1).natAbs : Int) * (((Z 3 - Z 2).natAbs : Int) * 1))) * ((((Z 4 - Z 0).natAbs : Int) * (((Z 4 - Z 1).natAbs : Int) * (((Z 4 - Z 2).natAbs : Int) * (((Z 4 - Z 3).natAbs : Int) * 1)))) * 1)))) ≤ _
  rw [show ((Z 1 - Z 0).natAbs : Int) = ((a + 1 : Nat) : Int) by omega, show ((Z 2 - Z 0).natAbs : Int) = ((a + b + 2 : Nat) : Int) by omega, show ((Z 2 - Z 1).natAbs : Int) = ((b + 1 : Nat) : Int) by omega, show ((Z 3 - Z 0).natAbs : Int) = ((a + b + c + 3 : Nat) : Int) by omega, show ((Z 3 - Z 1).natAbs : Int) = ((b + c + 2 : Nat) : Int) by omega, show ((Z 3 - Z 2).natAbs : Int) = ((c + 1 : Nat) : Int) by omega, show ((Z 4 - Z 0).natAbs : Int) = ((a + b + c + d + 4 : Nat) : Int) by omega, show ((Z 4 - Z 1).natAbs : Int) = ((b + c + d + 3 : Nat) : Int) by omega, show ((Z 4 - Z 2).natAbs : Int) = ((c + d + 2 : Nat) : Int) by omega, show ((Z 4 - Z 3).natAbs : Int) = ((d + 1 : Nat) : Int) by omega]
  have k2 := Int.ofNat_le.2 k
  refine Int.le_trans (Int.le_of_eq ?_) k2
  generalize a + 1 = x1
  generalize b + 1 = x2
  generalize c + 1 = x3
  generalize d + 1 = x4
  generalize a + b + 2 = x5
  generalize b + c + 2 = x6
  generalize c + d + 2 = x7
  generalize a + b + c + 3 = x8
  generalize b + c + d + 3 = x9
  generalize a + b + c + d + 4 = x10
  simp only [Int.natCast_mul, Int.mul_one, Int.one_mul]
  simp only [Int.mul_assoc, Int.mul_comm, Int.mul_left_comm]
theorem spz_b2 {C : Int} {X : Int → Int} (h0 : 0 ≤ C) (h5 : C ≤ 5) (hr : Rz C (-9) 9 X) (hi : Inj C X) : 0 ≤ spz X 0 C ∧ spz X 0 C ≤ 1275458400 := by
  refine ⟨(spz_b h0 h5 hr).1, ?_⟩
  rw [spz_0]
  by_cases e : C = 5
  · subst e
    rw [← vdz_iv hi]
    apply spz_g
    · intro p q p0 pq q5
      exact ivz_lt hi p0 pq q5
    · have a := ivz_s hi (p := 0) (by omega) (by omega)
      have b := ivz_s hi (p := 4) (by omega) (by omega)
      have := hr _ a.1 a.2.1
      have := hr _ b.1 b.2.1
      omega
  · have h := vdz_ge X C.toNat
    have a : ((vdz X C.toNat).natAbs : Int) ≤ pdz (fun k => ((18 ^ k.toNat : Nat) : Int)) C.toNat 0 := by
      unfold vdz
      apply pdz_bb
      intro k h1 h2
      apply pdz_b
      intro j h3 h4
      have := hr k (by omega) (by omega)
      have := hr j (by omega) (by omega)
      omega
    have b : pdz (fun k => ((18 ^ k.toNat : Nat) : Int)) C.toNat 0 ≤ 1275458400 := by
      have : C.toNat = 0 ∨ C.toNat = 1 ∨ C.toNat = 2 ∨ C.toNat = 3 ∨ C.toNat = 4 := by omega
      rcases this with e | e | e | e | e <;> rw [e] <;> decide
    omega
theorem num_w : ∀ C : Nat, C < 6 → ∀ k : Nat, k < C → pdz (fun j => ((if j = (k : Int) then 1 else 21 : Nat) : Int)) C 0 ≤ 194481 := by decide
theorem num_s : ∀ C : Nat, C < 6 → ∀ k : Nat, k < C → ∀ b : Nat, b < C → b ≠ k → pdz (fun j => ((if j = (k : Int) then 1 else if j = (b : Int) then 1 else 21 : Nat) : Int)) C 0 ≤ 9261 := by decide
section BNZ
variable {X : Int → Int} {C k x : Int}
theorem woz_b (h0 : 0 ≤ C) (h5 : C ≤ 5) (hr : Rz C (-9) 9 X) (k0 : 0 ≤ k) (k1 : k < C) (x0 : -12 ≤ x) (x1 : x ≤ 12) : (woz X k x C.toNat).natAbs ≤ 194481 := by
  have a : ((woz X k x C.toNat).natAbs : Int) ≤ pdz (fun j => ((if j = k then 1 else 21 : Nat) : Int)) C.toNat 0 := by
    unfold woz
    apply pdz_bb
    intro j h1 h2
    have := hr j (by omega) (by omega)
    split <;> omega
  have b := num_w C.toNat (by omega) k.toNat (by omega)
  rw [show (k.toNat : Int) = k by omega] at b
  omega
theorem swz_b (h0 : 0 ≤ C) (h5 : C ≤ 5) (hr : Rz C (-9) 9 X) (k0 : 0 ≤ k) (k1 : k < C) (x0 : -12 ≤ x) (x1 : x ≤ 12) : (swz X k x C.toNat).natAbs ≤ 46305 := by
  unfold swz
  refine Nat.le_trans (smz_b (B := 9261) _ _ ?_) (by omega)
  intro b b0 b1
  by_cases e : b = k
  · rw [if_pos e, Int.zero_mul]
    decide
  · rw [if_neg e, Int.one_mul]
    have a : ((pdz (fun j => if j = k then 1 else if j = b then 1 else x - X j) C.toNat 0).natAbs : Int) ≤ pdz (fun j => ((if j = k then 1 else if j = b then 1 else 21 : Nat) : Int)) C.toNat 0 := by
      apply pdz_bb
      intro j h1 h2
      have := hr j (by omega) (by omega)
      split
      · omega
      · split <;> omega
    have c := num_s C.toNat (by omega) k.toNat (by omega) b.toNat (by omega) (by omega)
    rw [show (k.toNat : Int) = k by omega, show (b.toNat : Int) = b by omega] at c
    omega
end BNZ
section BNW
variable {C m d : Int} {X W : Int → Int}
theorem blz_b2 (h0 : 0 ≤ C) (h5 : C ≤ 5) (hr : Rz C (-9) 9 X) (hi : Inj C X) {k : Int} (k0 : 0 ≤ k) (k1 : k < C) {w : Int} (w0 : 0 ≤ w) (w1 : w < C) : (blz C X w k).natAbs ≤ 6377292000 := by
  have q1 := plz_ge C X k
  have q2 := plz_r (X := X) k0 k1
  unfold blz
  refine Nat.le_trans (smz_b (f := wiz C X w k) (B := 1275458400) _ _ (fun i h1 h2 => ?_)) (by omega)
  have a := spz_b2 h0 h5 hr hi
  have b := Int.natAbs_tdiv_le_natAbs (spz X 0 C) (dsz C X k i (i + w))
  unfold wiz
  split <;> omega
theorem wtz_b (h0 : 0 ≤ C) (h5 : C ≤ 5) (hr : Rz C (-9) 9 X) (hi : Inj C X) (hw : Rz C (-9) 9 W) (hd : 0 ≤ d) {k : Int} (k0 : 0 ≤ k) (k1 : k < C) : (wtz C m d X W k).natAbs ≤ 6377292000 := by
  have a : (rwz C m d X W k).natAbs ≤ 6377292000 := by
    unfold rwz
    have := hw k k0 k1
    split
    · omega
    · exact blz_b2 h0 h5 hr hi k0 k1 (by split <;> omega) (by split <;> omega)
  have b := Int.natAbs_tdiv_le_natAbs (rwz C m d X W k) (gwz C m d X W C)
  unfold wtz
  split <;> omega
end BNW
def Bw (C : Int) (wt : Int → Int) : Prop := ∀ k, 0 ≤ k → k < C → (wt k).natAbs ≤ 6377292000
/-- the kind at a whole number, out of the four numbers -/
def knz (nm dn sn : Int) : Int := if dn = 0 then (if nm = 0 then (if sn = 0 then 3 else 1) else 2) else 0
section KND
variable {C x : Int} {X Y wt : Int → Int}
theorem natAbs_mul_le {a b : Int} {A B : Nat} (h1 : a.natAbs ≤ A) (h2 : b.natAbs ≤ B) : (a * b).natAbs ≤ A * B := by
  rw [Int.natAbs_mul]
  exact Nat.mul_le_mul h1 h2
theorem plv_b (h0 : 0 ≤ C) (h5 : C ≤ 5) (hr : Rz C (-9) 9 X) (hry : Rz C (-20) 20 Y) (hb : Bw C wt) (x0 : -12 ≤ x) (x1 : x ≤ 12) (fl : Int32) : (plv X (Tz fl wt Y) C.toNat C.toNat x).natAbs ≤ 124026212545200000 ∧ (dlv X (Tz fl wt Y) C.toNat C.toNat x).natAbs ≤ 124026212545200000 := by
  have t : ∀ k, 0 ≤ k → k < C → (Tz fl wt Y k).natAbs ≤ 127545840000 := by
    intro k k0 k1
    have a := hb k k0 k1
    have b := hry k k0 k1
    unfold Tz
    split
    · exact Nat.le_trans (natAbs_mul_le a (show (Y k).natAbs ≤ 20 by omega)) (by decide)
    · omega
  constructor
  · refine Nat.le_trans (smz_b (B := 127545840000 * 194481) _ _ (fun k k0 k1 => natAbs_mul_le (t k k0 (by omega)) (woz_b h0 h5 hr k0 (by omega) x0 x1))) (by omega)
  · refine Nat.le_trans (smz_b (B := 127545840000 * 194481) _ _ (fun k k0 k1 => natAbs_mul_le (t k k0 (by omega)) (Nat.le_trans (swz_b h0 h5 hr k0 (by omega) x0 x1) (by decide)))) (by omega)
end KND
