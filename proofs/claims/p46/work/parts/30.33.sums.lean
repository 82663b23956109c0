/-! Sums and products over a stretch of whole numbers; places and their inverse; the product of all differences does not see the order. -/
def smz (f : Int → Int) : Nat → Int → Int
  | 0, _ => 0
  | m + 1, j => f j + smz f m (j + 1)
def pdz (f : Int → Int) : Nat → Int → Int
  | 0, _ => 1
  | m + 1, j => f j * pdz f m (j + 1)
theorem itz_s (f : Int → Int) : ∀ (m : Nat) (j a : Int), itz (fun j a => a + f j) m j a = a + smz f m j := by
  intro m
  induction m with
  | zero => intro j a; show a = a + 0; omega
  | succ m ih =>
    intro j a
    show itz (fun j a => a + f j) m (j + 1) (a + f j) = a + (f j + smz f m (j + 1))
    rw [ih, Int.add_assoc]
theorem itz_p (f : Int → Int) : ∀ (m : Nat) (j a : Int), itz (fun j a => a * f j) m j a = a * pdz f m j := by
  intro m
  induction m with
  | zero => intro j a; show a = a * 1; omega
  | succ m ih =>
    intro j a
    show itz (fun j a => a * f j) m (j + 1) (a * f j) = a * (f j * pdz f m (j + 1))
    rw [ih, Int.mul_assoc]
theorem itz_c {α : Type} {f g : Int → α → α} : ∀ (m : Nat) (j : Int) (a : α), (∀ i b, j ≤ i → i < j + m → f i b = g i b) → itz f m j a = itz g m j a := by
  intro m
  induction m with
  | zero => intro j a _; rfl
  | succ m ih =>
    intro j a h
    show itz f m (j + 1) (f j a) = itz g m (j + 1) (g j a)
    rw [h j a (by omega) (by omega)]
    exact ih (j + 1) _ (fun i b h1 h2 => h i b (by omega) (by omega))
theorem smz_c {f g : Int → Int} : ∀ (m : Nat) (j : Int), (∀ i, j ≤ i → i < j + m → f i = g i) → smz f m j = smz g m j := by
  intro m
  induction m with
  | zero => intro j _; rfl
  | succ m ih =>
    intro j h
    show f j + smz f m (j + 1) = g j + smz g m (j + 1)
    rw [h j (by omega) (by omega), ih (j + 1) (fun i h1 h2 => h i (by omega) (by omega))]
theorem pdz_c {f g : Int → Int} : ∀ (m : Nat) (j : Int), (∀ i, j ≤ i → i < j + m → f i = g i) → pdz f m j = pdz g m j := by
  intro m
  induction m with
  | zero => intro j _; rfl
  | succ m ih =>
    intro j h
    show f j * pdz f m (j + 1) = g j * pdz g m (j + 1)
    rw [h j (by omega) (by omega), ih (j + 1) (fun i h1 h2 => h i (by omega) (by omega))]
theorem smz_e (f : Int → Int) : ∀ (m : Nat) (j : Int), smz f (m + 1) j = smz f m j + f (j + m) := by
  intro m
  induction m with
  | zero =>
    intro j
    show f j + 0 = 0 + f (j + 0)
    rw [show j + 0 = j by omega]
    omega
  | succ m ih =>
    intro j
    show f j + smz f (m + 1) (j + 1) = (f j + smz f m (j + 1)) + f (j + (m + 1 : Nat))
    rw [ih (j + 1), show j + 1 + (m : Int) = j + (m + 1 : Nat) by omega]
    omega
theorem pdz_e (f : Int → Int) : ∀ (m : Nat) (j : Int), pdz f (m + 1) j = pdz f m j * f (j + m) := by
  intro m
  induction m with
  | zero =>
    intro j
    show f j * 1 = 1 * f (j + 0)
    rw [show j + 0 = j by omega]
    omega
  | succ m ih =>
    intro j
    show f j * pdz f (m + 1) (j + 1) = (f j * pdz f m (j + 1)) * f (j + (m + 1 : Nat))
    rw [ih (j + 1), show j + 1 + (m : Int) = j + (m + 1 : Nat) by omega, Int.mul_assoc]
theorem smz_le {f g : Int → Int} : ∀ (m : Nat) (j : Int), (∀ i, j ≤ i → i < j + m → f i ≤ g i) → smz f m j ≤ smz g m j := by
  intro m
  induction m with
  | zero => intro j _; exact Int.le_refl _
  | succ m ih =>
    intro j h
    show f j + smz f m (j + 1) ≤ g j + smz g m (j + 1)
    have a := h j (by omega) (by omega)
    have b := ih (j + 1) (fun i h1 h2 => h i (by omega) (by omega))
    omega
theorem smz_lt {f g : Int → Int} : ∀ (m : Nat) (j k : Int), (∀ i, j ≤ i → i < j + m → f i ≤ g i) → j ≤ k → k < j + m → f k < g k → smz f m j < smz g m j := by
  intro m
  induction m with
  | zero => intro j k _ h1 h2; omega
  | succ m ih =>
    intro j k h h1 h2 h3
    show f j + smz f m (j + 1) < g j + smz g m (j + 1)
    have a := h j (by omega) (by omega)
    by_cases e : j = k
    · subst e
      have b := smz_le m (j + 1) (fun i h1 h2 => h i (by omega) (by omega))
      omega
    · have b := ih (j + 1) k (fun i h1 h2 => h i (by omega) (by omega)) (by omega) (by omega) h3
      omega
theorem smz_k (c : Int) : ∀ (m : Nat) (j : Int), smz (fun _ => c) m j = m * c := by
  intro m
  induction m with
  | zero => intro j; show 0 = ((0 : Nat) : Int) * c; rw [Int.natCast_zero, Int.zero_mul]
  | succ m ih =>
    intro j
    show c + smz (fun _ => c) m (j + 1) = ((m + 1 : Nat) : Int) * c
    rw [ih, Int.natCast_add, Int.add_mul, Int.natCast_one, Int.one_mul, Int.add_comm]
theorem pdz_n {f : Int → Int} : ∀ (m : Nat) (j : Int), (∀ i, j ≤ i → i < j + m → f i ≠ 0) → pdz f m j ≠ 0 := by
  intro m
  induction m with
  | zero => intro j _; show (1 : Int) ≠ 0; decide
  | succ m ih =>
    intro j h
    exact Int.mul_ne_zero (h j (by omega) (by omega)) (ih (j + 1) (fun i h1 h2 => h i (by omega) (by omega)))
theorem pdz_pos {f : Int → Int} : ∀ (m : Nat) (j : Int), (∀ i, j ≤ i → i < j + m → 0 < f i) → 0 < pdz f m j := by
  intro m
  induction m with
  | zero => intro j _; show (0 : Int) < 1; decide
  | succ m ih =>
    intro j h
    exact Int.mul_pos (h j (by omega) (by omega)) (ih (j + 1) (fun i h1 h2 => h i (by omega) (by omega)))
theorem pdz_ge {f : Int → Int} : ∀ (m : Nat) (j : Int), (∀ i, j ≤ i → i < j + m → 0 ≤ f i) → 0 ≤ pdz f m j := by
  intro m
  induction m with
  | zero => intro j _; show (0 : Int) ≤ 1; decide
  | succ m ih =>
    intro j h
    exact Int.mul_nonneg (h j (by omega) (by omega)) (ih (j + 1) (fun i h1 h2 => h i (by omega) (by omega)))
theorem pdz_m (f g : Int → Int) : ∀ (m : Nat) (j : Int), pdz (fun i => f i * g i) m j = pdz f m j * pdz g m j := by
  intro m
  induction m with
  | zero => intro j; rfl
  | succ m ih =>
    intro j
    show f j * g j * pdz (fun i => f i * g i) m (j + 1) = f j * pdz f m (j + 1) * (g j * pdz g m (j + 1))
    rw [ih, Int.mul_assoc, Int.mul_assoc, Int.mul_left_comm (g j)]
theorem smz_a (f g : Int → Int) : ∀ (m : Nat) (j : Int), smz (fun i => f i + g i) m j = smz f m j + smz g m j := by
  intro m
  induction m with
  | zero => intro j; rfl
  | succ m ih =>
    intro j
    show f j + g j + smz (fun i => f i + g i) m (j + 1) = f j + smz f m (j + 1) + (g j + smz g m (j + 1))
    rw [ih]
    omega
theorem smz_m (c : Int) (f : Int → Int) : ∀ (m : Nat) (j : Int), smz (fun i => c * f i) m j = c * smz f m j := by
  intro m
  induction m with
  | zero => intro j; show 0 = c * 0; omega
  | succ m ih =>
    intro j
    show c * f j + smz (fun i => c * f i) m (j + 1) = c * (f j + smz f m (j + 1))
    rw [ih, Int.mul_add]
/-! An injective map of 0 .. n - 1 into itself meets all. -/
theorem pigeon : ∀ (n : Nat) (f : Nat → Nat), (∀ i, i < n → f i < n) → (∀ i j, i < n → j < n → f i = f j → i = j) → ∀ p, p < n → ∃ i, i < n ∧ f i = p := by
  intro n
  induction n with
  | zero => intro f _ _ p hp; omega
  | succ n ih =>
    intro f h1 h2 p hp
    by_cases hh : ∃ i, i < n + 1 ∧ f i = p
    · exact hh
    · exfalso
      have hn : ∀ i, i < n + 1 → f i ≠ p := fun i hi e => hh ⟨i, hi, e⟩
      have g1 : ∀ i, i < n → (if f i < p then f i else f i - 1) < n := by
        intro i hi
        have a := h1 i (by omega)
        have b := hn i (by omega)
        split <;> omega
      have g2 : ∀ i j, i < n → j < n → (if f i < p then f i else f i - 1) = (if f j < p then f j else f j - 1) → i = j := by
        intro i j hi hj e
        have b := hn i (by omega)
        have b2 := hn j (by omega)
        apply h2 i j (by omega) (by omega)
        split at e <;> split at e <;> omega
      have a := h1 n (by omega)
      have b := hn n (by omega)
      have c : (if f n < p then f n else f n - 1) < n := by split <;> omega
      obtain ⟨i, hi, e⟩ := ih (fun i => if f i < p then f i else f i - 1) g1 g2 _ c
      have b2 := hn i (by omega)
      have : i = n := by
        apply h2 i n (by omega) (by omega)
        try dsimp only at e
        split at e <;> split at e <;> omega
      omega
/-- how many points have a smaller X -/
def plz (C : Int) (X : Int → Int) (k : Int) : Int := smz (fun j => if X j < X k then 1 else 0) C.toNat 0
theorem plz_lt {C : Int} {X : Int → Int} {j k : Int} (h1 : 0 ≤ j) (h2 : j < C) (h : X j < X k) : plz C X j < plz C X k := by
  apply smz_lt _ _ j _ (by omega) (by omega)
  · try dsimp only
    rw [if_neg (by omega), if_pos h]
    decide
  · intro i _ _
    try dsimp only
    split <;> split <;> omega
theorem plz_ge (C : Int) (X : Int → Int) (k : Int) : 0 ≤ plz C X k := by
  have := smz_le (f := fun _ => 0) (g := fun j => if X j < X k then 1 else 0) C.toNat 0 (fun i _ _ => by split <;> omega)
  rw [smz_k] at this
  unfold plz
  omega
theorem plz_r {C : Int} {X : Int → Int} {k : Int} (h1 : 0 ≤ k) (h2 : k < C) : plz C X k < C := by
  have := smz_lt (f := fun j => if X j < X k then 1 else 0) (g := fun _ => 1) C.toNat 0 k (fun i _ _ => by split <;> omega) (by omega) (by omega) (by rw [if_neg (by omega)]; decide)
  rw [smz_k] at this
  unfold plz
  omega
def Inj (C : Int) (X : Int → Int) : Prop := ∀ j k, 0 ≤ j → j < C → 0 ≤ k → k < C → X j = X k → j = k
theorem plz_i {C : Int} {X : Int → Int} (hi : Inj C X) {j k : Int} (h1 : 0 ≤ j) (h2 : j < C) (h3 : 0 ≤ k) (h4 : k < C) (e : plz C X j = plz C X k) : j = k := by
  apply hi j k h1 h2 h3 h4
  rcases Int.lt_trichotomy (X j) (X k) with w | w | w
  · have := plz_lt h1 h2 w
    omega
  · exact w
  · have := plz_lt h3 h4 w
    omega
theorem plz_s {C : Int} {X : Int → Int} (hi : Inj C X) {p : Int} (h1 : 0 ≤ p) (h2 : p < C) : ∃ k, 0 ≤ k ∧ k < C ∧ plz C X k = p := by
  obtain ⟨i, a, b⟩ := pigeon C.toNat (fun i => (plz C X i).toNat) (fun i hi => by
      have := plz_r (X := X) (C := C) (k := i) (by omega) (by omega)
      have := plz_ge C X i
      try dsimp only
      omega) (fun i j h1 h2 e => by
      try dsimp only at e
      have a := plz_ge C X i
      have b := plz_ge C X j
      have := plz_i hi (j := i) (k := j) (by omega) (by omega) (by omega) (by omega) (by omega)
      omega) p.toNat (by omega)
  refine ⟨i, by omega, by omega, ?_⟩
  try dsimp only at b
  have a := plz_ge C X i
  omega
/-- the point at a place -/
noncomputable def ivz (C : Int) (X : Int → Int) (p : Int) : Int := Classical.epsilon (fun k => 0 ≤ k ∧ k < C ∧ plz C X k = p)
theorem ivz_s {C : Int} {X : Int → Int} (hi : Inj C X) {p : Int} (h1 : 0 ≤ p) (h2 : p < C) : 0 ≤ ivz C X p ∧ ivz C X p < C ∧ plz C X (ivz C X p) = p :=
  Classical.epsilon_spec (plz_s hi h1 h2)
theorem ivz_p {C : Int} {X : Int → Int} (hi : Inj C X) {k : Int} (h1 : 0 ≤ k) (h2 : k < C) : ivz C X (plz C X k) = k := by
  obtain ⟨a, b, c⟩ := ivz_s hi (plz_ge C X k) (plz_r h1 h2)
  exact plz_i hi a b h1 h2 c
theorem pdz_f (f : Int → Int) : ∀ m : Nat, pdz f m 0 = (List.range m).foldl (fun (a : Int) (i : Nat) => a * f i) 1 := by
  intro m
  induction m with
  | zero => rfl
  | succ m ih =>
    rw [pdz_e, ih, List.range_succ, List.foldl_append, show (0 : Int) + (m : Int) = m by omega]
    rfl
theorem pdz_iv {C : Int} {X : Int → Int} (hi : Inj C X) (f : Int → Int) : pdz (fun p => f (ivz C X p)) C.toNat 0 = pdz f C.toNat 0 := by
  rw [pdz_f, pdz_f]
  have e : (List.range C.toNat).foldl (fun (a : Int) (i : Nat) => a * f (ivz C X i)) 1 = ((List.range C.toNat).map (fun (i : Nat) => (ivz C X i).toNat)).foldl (fun (a : Int) (i : Nat) => a * f i) 1 := by
    rw [List.foldl_map]
    have : ∀ (l : List Nat) (a : Int), (∀ i ∈ l, i < C.toNat) → l.foldl (fun (a : Int) (i : Nat) => a * f (ivz C X i)) a = l.foldl (fun (a : Int) (i : Nat) => a * f ((ivz C X i).toNat : Int)) a := by
      intro l
      induction l with
      | nil => intro a _; rfl
      | cons b l ih =>
        intro a h
        have hb := h b List.mem_cons_self
        have := ivz_s hi (p := b) (by omega) (by omega)
        show l.foldl (fun (a : Int) (i : Nat) => a * f (ivz C X i)) (a * f (ivz C X b)) = l.foldl (fun (a : Int) (i : Nat) => a * f ((ivz C X i).toNat : Int)) (a * f ((ivz C X b).toNat : Int))
        rw [show ((ivz C X b).toNat : Int) = ivz C X b by omega]
        exact ih _ (fun i hi => h i (List.mem_cons_of_mem _ hi))
    exact this _ 1 (fun i hi => List.mem_range.1 hi)
  rw [e]
  apply List.Perm.foldl_eq'
  · apply (List.perm_ext_iff_of_nodup _ List.nodup_range).2
    · intro a
      rw [List.mem_map, List.mem_range]
      constructor
      · rintro ⟨i, h1, rfl⟩
        have h1 := List.mem_range.1 h1
        have := ivz_s hi (p := i) (by omega) (by omega)
        omega
      · intro h
        have a1 := plz_ge C X a
        have a2 := plz_r (C := C) (X := X) (k := a) (by omega) (by omega)
        refine ⟨(plz C X a).toNat, List.mem_range.2 (by omega), ?_⟩
        rw [show ((plz C X a).toNat : Int) = plz C X a by omega, ivz_p hi (by omega) (by omega)]
        omega
    · unfold List.Nodup
      rw [List.pairwise_map]
      apply List.Pairwise.imp_of_mem _ List.nodup_range
      intro i j h1 h2 h3 h4
      have h1 := List.mem_range.1 h1
      have h2 := List.mem_range.1 h2
      have s1 := ivz_s hi (p := i) (by omega) (by omega)
      have s2 := ivz_s hi (p := j) (by omega) (by omega)
      have : ivz C X i = ivz C X j := by omega
      rw [this] at s1
      omega
  · intro x _ y _ z
    rw [Int.mul_assoc, Int.mul_assoc, Int.mul_comm (f x)]
/-- the product of all differences without their signs -/
def vdz (g : Int → Int) (m : Nat) : Int := pdz (fun k => pdz (fun j => ((g k - g j).natAbs : Int)) k.toNat 0) m 0
def fuz (g : Int → Int) (m : Nat) : Int := pdz (fun k => pdz (fun j => if j = k then 1 else ((g k - g j).natAbs : Int)) m 0) m 0
theorem fuz_v (g : Int → Int) : ∀ m : Nat, fuz g m = vdz g m * vdz g m := by
  intro m
  induction m with
  | zero => rfl
  | succ m ih =>
    have e1 : fuz g (m + 1) = fuz g m * pdz (fun j => ((g m - g j).natAbs : Int)) m 0 * pdz (fun j => ((g m - g j).natAbs : Int)) m 0 := by
      unfold fuz
      rw [pdz_e, show (0 : Int) + (m : Int) = m by omega]
      have a : pdz (fun k => pdz (fun j => if j = k then 1 else ((g k - g j).natAbs : Int)) (m + 1) 0) m 0 = pdz (fun k => pdz (fun j => if j = k then 1 else ((g k - g j).natAbs : Int)) m 0 * ((g m - g k).natAbs : Int)) m 0 := by
        apply pdz_c
        intro k h1 h2
        rw [pdz_e, show (0 : Int) + (m : Int) = m by omega, if_neg (by omega)]
        congr 2
        omega
      have b : pdz (fun j => if j = (m : Int) then 1 else ((g m - g j).natAbs : Int)) (m + 1) 0 = pdz (fun j => ((g m - g j).natAbs : Int)) m 0 := by
        rw [pdz_e, show (0 : Int) + (m : Int) = m by omega, if_pos rfl, Int.mul_one]
        apply pdz_c
        intro k h1 h2
        try dsimp only
        rw [if_neg (by omega)]
      rw [a, b, pdz_m]
    have e2 : vdz g (m + 1) = vdz g m * pdz (fun j => ((g m - g j).natAbs : Int)) m 0 := by
      unfold vdz
      rw [pdz_e, show (0 : Int) + (m : Int) = m by omega, show ((m : Int)).toNat = m by omega]
    rw [e1, e2, ih, Int.mul_assoc, Int.mul_assoc, Int.mul_assoc, Int.mul_left_comm (vdz g m) (pdz (fun j => ((g m - g j).natAbs : Int)) m 0)]
theorem vdz_ge (g : Int → Int) (m : Nat) : 0 ≤ vdz g m := pdz_ge _ _ (fun i _ _ => pdz_ge _ _ (fun j _ _ => by omega))
theorem sq_inj {x y : Int} (hx : 0 ≤ x) (hy : 0 ≤ y) (h : x * x = y * y) : x = y := by
  rcases Int.lt_trichotomy x y with w | w | w
  · have a := Int.mul_le_mul_of_nonneg_left (Int.le_of_lt w) hx
    have b := Int.mul_lt_mul_of_pos_right w (show 0 < y by omega)
    omega
  · exact w
  · have a := Int.mul_le_mul_of_nonneg_left (Int.le_of_lt w) hy
    have b := Int.mul_lt_mul_of_pos_right w (show 0 < x by omega)
    omega
theorem vdz_iv {C : Int} {X : Int → Int} (hi : Inj C X) : vdz (fun p => X (ivz C X p)) C.toNat = vdz X C.toNat := by
  apply sq_inj (vdz_ge _ _) (vdz_ge _ _)
  rw [← fuz_v, ← fuz_v]
  unfold fuz
  rw [← pdz_iv hi (fun k => pdz (fun j => if j = k then 1 else ((X k - X j).natAbs : Int)) C.toNat 0)]
  apply pdz_c
  intro p h1 h2
  try dsimp only
  rw [← pdz_iv hi (fun j => if j = ivz C X p then 1 else ((X (ivz C X p) - X j).natAbs : Int))]
  apply pdz_c
  intro q h3 h4
  try dsimp only
  have s1 := ivz_s hi (p := p) (by omega) (by omega)
  have s2 := ivz_s hi (p := q) (by omega) (by omega)
  by_cases e : q = p
  · rw [if_pos e, if_pos (by rw [e])]
  · rw [if_neg e, if_neg]
    intro w
    rw [w] at s2
    omega
theorem ivz_lt {C : Int} {X : Int → Int} (hi : Inj C X) {p q : Int} (h1 : 0 ≤ p) (h2 : p < q) (h3 : q < C) : X (ivz C X p) < X (ivz C X q) := by
  have s1 := ivz_s hi (p := p) (by omega) (by omega)
  have s2 := ivz_s hi (p := q) (by omega) (by omega)
  rcases Int.lt_trichotomy (X (ivz C X p)) (X (ivz C X q)) with w | w | w
  · exact w
  · have := hi _ _ s1.1 s1.2.1 s2.1 s2.2.1 w
    rw [this] at s1
    omega
  · have := plz_lt s2.1 s2.2.1 w
    omega
