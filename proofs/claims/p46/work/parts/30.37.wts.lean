/-! The weights on both sides. -/
theorem pdz_b {f : Int → Int} {B : Nat} : ∀ (m : Nat) (j : Int), (∀ i, j ≤ i → i < j + m → (f i).natAbs ≤ B) → (pdz f m j).natAbs ≤ B ^ m := by
  intro m
  induction m with
  | zero => intro j _; exact Nat.le_refl _
  | succ m ih =>
    intro j h
    show (f j * pdz f m (j + 1)).natAbs ≤ B ^ (m + 1)
    rw [Int.natAbs_mul, Nat.pow_succ, Nat.mul_comm]
    exact Nat.mul_le_mul (ih (j + 1) (fun i h1 h2 => h i (by omega) (by omega))) (h j (by omega) (by omega))
theorem pdz_bb {f : Int → Int} {g : Int → Nat} : ∀ (m : Nat) (j : Int), (∀ i, j ≤ i → i < j + m → (f i).natAbs ≤ g i) → ((pdz f m j).natAbs : Int) ≤ pdz (fun i => (g i : Int)) m j := by
  intro m
  induction m with
  | zero => intro j _; exact Int.le_refl _
  | succ m ih =>
    intro j h
    show ((f j * pdz f m (j + 1)).natAbs : Int) ≤ (g j : Int) * pdz (fun i => (g i : Int)) m (j + 1)
    rw [Int.natAbs_mul, Int.natCast_mul]
    have a := h j (by omega) (by omega)
    have b := ih (j + 1) (fun i h1 h2 => h i (by omega) (by omega))
    exact Int.mul_le_mul (by omega) b (by omega) (by omega)
theorem smz_b {f : Int → Int} {B : Nat} : ∀ (m : Nat) (j : Int), (∀ i, j ≤ i → i < j + m → (f i).natAbs ≤ B) → (smz f m j).natAbs ≤ m * B := by
  intro m
  induction m with
  | zero => intro j _; show (0 : Int).natAbs ≤ 0 * B; omega
  | succ m ih =>
    intro j h
    show (f j + smz f m (j + 1)).natAbs ≤ (m + 1) * B
    have a := ih (j + 1) (fun i h1 h2 => h i (by omega) (by omega))
    have b := h j (by omega) (by omega)
    rw [Nat.add_mul, Nat.one_mul]
    omega
/-- the product of the differences of a point and others of some places in order -/
noncomputable def dsz (C : Int) (X : Int → Int) (k lo hi : Int) : Int := pdz (fun p => if p = plz C X k then 1 else X k - X (ivz C X p)) (hi + 1 - lo).toNat lo
noncomputable def wiz (C : Int) (X : Int → Int) (w k i : Int) : Int := if i % 2 = 0 then (spz X 0 C).tdiv (dsz C X k i (i + w)) else -(spz X 0 C).tdiv (dsz C X k i (i + w))
noncomputable def blz (C : Int) (X : Int → Int) (w k : Int) : Int := smz (wiz C X w k) (min (plz C X k) (C - 1 - w) + 1 - max 0 (plz C X k - w)).toNat (max 0 (plz C X k - w))
noncomputable def rwz (C m d : Int) (X W : Int → Int) (k : Int) : Int := if m = 2 then W k else blz C X (if m = 0 then C - 1 else min d (C - 1)) k
section WTS
variable {C : Int} {X W : Int → Int} {xs ws s o so : Nat → Int32}
theorem spz_b (h0 : 0 ≤ C) (h5 : C ≤ 5) (hr : Rz C (-9) 9 X) : 0 ≤ spz X 0 C ∧ spz X 0 C ≤ 3570467226624 := by
  rw [spz_0]
  refine ⟨vdz_ge _ _, ?_⟩
  have h := vdz_ge X C.toNat
  have a : ((vdz X C.toNat).natAbs : Int) ≤ pdz (fun k => ((18 ^ k.toNat : Nat) : Int)) C.toNat 0 := by
    unfold vdz
    apply pdz_bb
    intro k h1 h2
    apply pdz_b
    intro j h3 h4
    have := hr k (by omega) (by omega)
    have := hr j (by omega) (by omega)
    omega
  have b : pdz (fun k => ((18 ^ k.toNat : Nat) : Int)) C.toNat 0 ≤ 3570467226624 := by
    have : C.toNat = 0 ∨ C.toNat = 1 ∨ C.toNat = 2 ∨ C.toNat = 3 ∨ C.toNat = 4 ∨ C.toNat = 5 := by omega
    rcases this with e | e | e | e | e | e <;> rw [e] <;> decide
  omega
theorem dsz_b (h5 : C ≤ 5) (hr : Rz C (-9) 9 X) (hi : Inj C X) {k : Int} (k0 : 0 ≤ k) (k1 : k < C) {lo h : Int} (l0 : 0 ≤ lo) (l1 : h < C) : (dsz C X k lo h).natAbs ≤ 1889568 ∧ dsz C X k lo h ≠ 0 := by
  constructor
  · refine Nat.le_trans (pdz_b (B := 18) _ _ ?_) (Nat.pow_le_pow_right (j := 5) (by decide) (by omega))
    intro p h1 h2
    try dsimp only
    have s1 := ivz_s hi (p := p) (by omega) (by omega)
    have := hr k k0 k1
    have := hr _ s1.1 s1.2.1
    split <;> omega
  · apply pdz_n
    intro p h1 h2
    try dsimp only
    have s1 := ivz_s hi (p := p) (by omega) (by omega)
    split
    · decide
    · intro e
      have := hi k _ k0 k1 s1.1 s1.2.1 (by omega)
      rw [← this] at s1
      omega
theorem dist3 (h5 : C ≤ 5) (hx : En 0 C xs X) (hr : Rz C (-9) 9 X) (hi : Inj C X) (hso : En 0 C so (fun p => X (ivz C X p))) {k : Int} (k0 : 0 ≤ k) (k1 : k < C) {lo w : Int} (l0 : 0 ≤ lo) (w0 : 0 ≤ w) (l1 : lo + w < C) :
    lX0_scaledWeight_90 (z3 k) (z3 w) (z3 (plz C X k)) (z3 lo) xs so FU (z6 1) (z3 lo) = some (z6 (dsz C X k lo (lo + w))) := by
  have q1 := plz_ge C X k
  have q2 := plz_r (X := X) k0 k1
  have H := runz (fun n j (a : Int) => lX0_scaledWeight_90 (z3 k) (z3 w) (z3 (plz C X k)) (z3 lo) xs so n (z6 a) (z3 j)) (fun p a => a * (if p = plz C X k then 1 else X k - X (ivz C X p))) (fun j a => lo ≤ j) (lo + w + 1) z6
    (fun n j a hj hp => by
      have hp : lo ≤ j := hp
      refine ⟨?_, by omega⟩
      have e1 := hx.z k0 k1
      have e2 := hso.z (k := j) (by omega) (by omega)
      have r1 := hr k k0 k1
      have s1 := ivz_s hi (p := j) (by omega) (by omega)
      have r2 := hr _ s1.1 s1.2.1
      simp (disch := omega) only [lX0_scaledWeight_90, l3_0, l3_1, l3_2, l3_3, l3_4, l3_5, l3_8, l3_9, l3_10, l3_12, l3_13, l3_14, l3_18, l3_19, l3_20, l3_24, l3_31, l3_32, l3_33, l3_45, l3_47, l3_48, l3_57, l3_58, l3_59, l3_63, l3_94, l3_97, l3_120, l3_122, l3_180, l3_200, l3_255, l3_320, l3_400, z3a, z3s, z3m, z3n, z3le, z3lt, z3eq, z3nat, z364, l6_0, l6_1, l6_2, l6_10, l6_48, z6a, z6s, z6m, z6n, if_neg, xOfz, Option.bind_some, e1, e2]
      by_cases q : j = plz C X k
      · rw [if_pos q, if_pos q]
      · rw [if_neg q, if_neg q])
    (fun n a hp => by
      simp (disch := omega) only [lX0_scaledWeight_90, l3_0, l3_1, l3_2, l3_3, l3_4, l3_5, l3_8, l3_9, l3_10, l3_12, l3_13, l3_14, l3_18, l3_19, l3_20, l3_24, l3_31, l3_32, l3_33, l3_45, l3_47, l3_48, l3_57, l3_58, l3_59, l3_63, l3_94, l3_97, l3_120, l3_122, l3_180, l3_200, l3_255, l3_320, l3_400, z3a, z3s, z3m, z3n, z3le, z3lt, z3eq, z3nat, z364, if_pos])
    (lo + w + 1 - lo).toNat FU lo 1 (by omega) (fuel (by omega)) (by omega)
  rw [itz_p, Int.one_mul] at H
  exact H.1
end WTS
