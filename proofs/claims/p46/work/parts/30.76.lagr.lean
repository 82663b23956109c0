/-! The partition of one, and step 27, plainValue. -/
def dqv (q : Int → Int) (r p : Int) : Int := if p = 3 then q 4 else if p = 2 then q 4 * r + q 3 else if p = 1 then (q 4 * r + q 3) * r + q 2 else if p = 0 then ((q 4 * r + q 3) * r + q 2) * r + q 1 else 0
theorem evz_f (q : Int → Int) (r x : Int) : evz q x - evz q r = (x - r) * evz (dqv q r) x := by
  have h4 : dqv q r 4 = 0 := rfl
  have h3 : dqv q r 3 = q 4 := rfl
  have h2 : dqv q r 2 = q 4 * r + q 3 := rfl
  have h1 : dqv q r 1 = (q 4 * r + q 3) * r + q 2 := rfl
  have h0 : dqv q r 0 = ((q 4 * r + q 3) * r + q 2) * r + q 1 := rfl
  unfold evz
  rw [h4, h3, h2, h1, h0]
  grind
theorem evz_0 : ∀ (n : Nat) (q : Int → Int) (rt : Nat → Int), n ≤ 4 → (∀ p : Int, n < p → p ≤ 4 → q p = 0) → (∀ i, i ≤ n → evz q (rt i) = 0) → (∀ i j, i ≤ n → j ≤ n → rt i = rt j → i = j) → ∀ x, evz q x = 0 := by
  intro n
  induction n with
  | zero =>
    intro q rt _ hz hr _ x
    have e : ∀ y, evz q y = q 0 := fun y => by
      unfold evz
      rw [hz 4 (by omega) (by omega), hz 3 (by omega) (by omega), hz 2 (by omega) (by omega), hz 1 (by omega) (by omega)]
      grind
    rw [e x, ← e (rt 0)]
    exact hr 0 (by omega)
  | succ n ih =>
    intro q rt hn hz hr hi x
    have r0 := hr (n + 1) (by omega)
    have f := fun y => evz_f q (rt (n + 1)) y
    rw [r0] at f
    have g := ih (dqv q (rt (n + 1))) rt (by omega) (fun p p0 p1 => ?_) (fun i i0 => ?_) (fun i j i0 j0 e => hi i j (by omega) (by omega) e) x
    · have := f x
      rw [g, Int.mul_zero] at this
      omega
    · have c : p = 4 ∨ p = 3 ∨ p = 2 ∨ p = 1 := by omega
      rcases c with rfl | rfl | rfl | rfl
      · rfl
      · exact hz 4 (by omega) (by omega)
      · show q 4 * _ + q 3 = 0
        rw [hz 4 (by omega) (by omega), hz 3 (by omega) (by omega)]
        omega
      · show (q 4 * _ + q 3) * _ + q 2 = 0
        rw [hz 4 (by omega) (by omega), hz 3 (by omega) (by omega), hz 2 (by omega) (by omega)]
        grind
    · have := f (rt i)
      rw [hr i (by omega)] at this
      have h : (rt i - rt (n + 1)) * evz (dqv q (rt (n + 1))) (rt i) = 0 := by omega
      rcases Int.mul_eq_zero.1 h with w | w
      · have := hi i (n + 1) (by omega) (by omega) (by omega)
        omega
      · exact w
theorem smz_1 {f : Int → Int} {i : Int} : ∀ (m : Nat) (j : Int), j ≤ i → i < j + m → (∀ k, j ≤ k → k < j + m → k ≠ i → f k = 0) → smz f m j = f i := by
  intro m
  induction m with
  | zero => intro j h1 h2; omega
  | succ m ih =>
    intro j h1 h2 h3
    show f j + smz f m (j + 1) = f i
    by_cases e : j = i
    · have z : smz f m (j + 1) = 0 := by
        rw [smz_c (g := fun _ => 0) m (j + 1) (fun k k0 k1 => h3 k (by omega) (by omega) (by omega)), smz_k, Int.mul_zero]
      rw [z, e, Int.add_zero]
    · rw [h3 j (by omega) (by omega) e, ih (j + 1) (by omega) (by omega) (fun k k0 k1 k2 => h3 k (by omega) (by omega) k2), Int.zero_add]
theorem pdz_z {f : Int → Int} {i : Int} (m : Nat) (j : Int) (h1 : j ≤ i) (h2 : i < j + m) (h : f i = 0) : pdz f m j = 0 := by
  have := pdz_dv (f := f) m j i h1 h2
  rw [h] at this
  exact Int.zero_dvd.1 this
section LGR
variable {C : Int} {X T : Int → Int}
theorem lagr (c1 : 1 ≤ C) (h5 : C ≤ 5) (hi : Inj C X) (hT : ∀ k, 0 ≤ k → k < C → T k * ozz C X k = spz X 0 C) (x : Int) : plv X T C.toNat C.toNat x = spz X 0 C := by
  have ev : ∀ y, evz (fun p => cfz X T C.toNat C.toNat p - spz X 0 C * onz p) y = plv X T C.toNat C.toNat y - spz X 0 C := fun y => by
    have a := (cfz_v X T C.toNat y (by omega) C.toNat (by omega)).1
    have b := evz_1 y
    rw [← a]
    have l : ∀ (u v : Int → Int) (c : Int), evz (fun p => u p - c * v p) y = evz u y - c * evz v y := fun u v c => by
      unfold evz
      grind
    rw [l, b, Int.mul_one]
  have z := evz_0 (C.toNat - 1) (fun p => cfz X T C.toNat C.toNat p - spz X 0 C * onz p) (fun i => X i) (by omega) (fun p p0 p1 => ?_) (fun i i0 => ?_) (fun i j i0 j0 e => ?_) x
  · rw [ev] at z
    omega
  · have c0 : cfz X T C.toNat C.toNat p = 0 := by
      unfold cfz
      rw [smz_c (g := fun _ => 0) _ _ (fun k k0 k1 => by
        rw [prt_0 X k C.toNat p (by rw [if_pos (by omega)]; omega), Int.mul_zero]), smz_k, Int.mul_zero]
    have o0 : onz p = 0 := if_neg (by omega)
    show cfz X T C.toNat C.toNat p - spz X 0 C * onz p = 0
    rw [c0, o0, Int.mul_zero]
    rfl
  · rw [ev]
    unfold plv
    rw [smz_1 (i := (i : Int)) C.toNat 0 (by omega) (by omega) (fun k k0 k1 k2 => ?_)]
    · show T i * ozz C X i - spz X 0 C = 0
      rw [hT i (by omega) (by omega)]
      omega
    · have : woz X k (X i) C.toNat = 0 := pdz_z (i := (i : Int)) _ _ (by omega) (by omega) (by
        rw [if_neg (fun w => k2 w.symm)]
        omega)
      rw [this, Int.mul_zero]
  · have := hi i j (by omega) (by omega) (by omega) (by omega) e
    omega
theorem dsz_o (hi : Inj C X) {k : Int} (k0 : 0 ≤ k) (k1 : k < C) : dsz C X k 0 (C - 1) = ozz C X k := by
  unfold dsz ozz
  rw [show (C - 1 + 1 - 0).toNat = C.toNat by omega, ← pdz_iv hi (fun j => if j = k then 1 else X k - X j)]
  refine pdz_c _ _ (fun p p0 p1 => ?_)
  by_cases e : p = plz C X k
  · rw [if_pos e, e, ivz_p hi k0 k1, if_pos rfl]
  · have : ivz C X p ≠ k := fun w => e (by
      have := (ivz_s hi (p := p) (by omega) (by omega)).2.2
      rw [← this, w])
    rw [if_neg e, if_neg this]
theorem ozz_s (hi : Inj C X) {k : Int} (k0 : 0 ≤ k) (k1 : k < C) : qqz X 0 C k * ozz C X k = spz X 0 C := by
  have h := dqz_q (X := X) (f := 0) (b := C) (k := k) k0 k1
  have e : dqz X 0 C k = ozz C X k := by
    unfold dqz ozz
    rw [show C - 0 = C by omega]
  rw [← e, Int.mul_comm]
  exact h
theorem raw_0 (hi : Inj C X) (d : Int) (W : Int → Int) {k : Int} (k0 : 0 ≤ k) (k1 : k < C) : rwz C 0 d X W k = qqz X 0 C k := by
  have p0 := plz_ge C X k
  have p1 := plz_r (X := X) k0 k1
  unfold rwz blz
  rw [if_neg (by decide), if_pos rfl, show max 0 (plz C X k - (C - 1)) = 0 by omega, show (min (plz C X k) (C - 1 - (C - 1)) + 1 - 0).toNat = 1 by omega]
  show wiz C X (C - 1) k 0 + 0 = _
  unfold wiz
  rw [if_pos (by decide), show 0 + (C - 1) = C - 1 by omega, dsz_o hi k0 k1, Int.add_zero]
  unfold qqz
  congr 1
  unfold dqz ozz
  rw [show C - 0 = C by omega]
end LGR
