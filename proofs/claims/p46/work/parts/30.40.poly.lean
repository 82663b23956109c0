/-! Polynomials as tables of five coefficients. -/
/-- a loop whose turns are known by what they keep -/
theorem runr {α β : Type} (L : Nat → Int → α → Option β) (P : Int → α → Prop) (C : Int) (r : α → β)
    (hs : ∀ (n : Nat) (j : Int) (a : α), j < C → P j a → ∃ a1, L (n + 1) j a = L n (j + 1) a1 ∧ P (j + 1) a1)
    (he : ∀ (n : Nat) (a : α), P C a → L (n + 1) C a = some (r a)) :
    ∀ (m n : Nat) (j : Int) (a : α), j + m = C → m < n → P j a → ∃ a1, L n j a = some (r a1) ∧ P C a1 := by
  intro m
  induction m with
  | zero =>
    intro n j a h1 h2 h3
    obtain ⟨n, rfl⟩ : ∃ q, n = q + 1 := ⟨n - 1, by omega⟩
    have e : j = C := by omega
    subst e
    exact ⟨a, he n a h3, h3⟩
  | succ m ih =>
    intro n j a h1 h2 h3
    obtain ⟨n, rfl⟩ : ∃ q, n = q + 1 := ⟨n - 1, by omega⟩
    obtain ⟨a1, e1, e2⟩ := hs n j a (by omega) h3
    rw [e1]
    exact ih n (j + 1) a1 (by omega) (by omega) e2
def onz (p : Int) : Int := if p = 0 then 1 else 0
def mlz (c : Int) (q : Int → Int) (p : Int) : Int := (if p = 0 then 0 else q (p - 1)) - c * q p
/-- the coefficients of the product of x - X over m points but one -/
def prt (X : Int → Int) (k : Int) (m : Nat) : Int → Int := itz (fun j q => if j = k then q else mlz (X j) q) m 0 onz
def evz (q : Int → Int) (x : Int) : Int := ((((0 * x + q 4) * x + q 3) * x + q 2) * x + q 1) * x + q 0
def dvz (q : Int → Int) (x : Int) : Int := (((0 * x + 4 * q 4) * x + 3 * q 3) * x + 2 * q 2) * x + 1 * q 1
theorem evz_m (c x : Int) (q : Int → Int) (h : q 4 = 0) : evz (mlz c q) x = evz q x * (x - c) := by
  have e0 : mlz c q 0 = 0 - c * q 0 := rfl
  have e1 : mlz c q 1 = q 0 - c * q 1 := rfl
  have e2 : mlz c q 2 = q 1 - c * q 2 := rfl
  have e3 : mlz c q 3 = q 2 - c * q 3 := rfl
  have e4 : mlz c q 4 = q 3 - c * q 4 := rfl
  unfold evz
  rw [e0, e1, e2, e3, e4, h]
  generalize q 0 = a
  generalize q 1 = b
  generalize q 2 = d
  generalize q 3 = e
  grind
theorem dvz_m (c x : Int) (q : Int → Int) (h : q 4 = 0) : dvz (mlz c q) x = dvz q x * (x - c) + evz q x := by
  have e1 : mlz c q 1 = q 0 - c * q 1 := rfl
  have e2 : mlz c q 2 = q 1 - c * q 2 := rfl
  have e3 : mlz c q 3 = q 2 - c * q 3 := rfl
  have e4 : mlz c q 4 = q 3 - c * q 4 := rfl
  unfold dvz evz
  rw [e1, e2, e3, e4, h]
  generalize q 0 = a
  generalize q 1 = b
  generalize q 2 = d
  generalize q 3 = e
  grind
theorem evz_1 (x : Int) : evz onz x = 1 := by
  show ((((0 * x + 0) * x + 0) * x + 0) * x + 0) * x + 1 = 1
  grind
theorem dvz_1 (x : Int) : dvz onz x = 0 := by
  show (((0 * x + 4 * 0) * x + 3 * 0) * x + 2 * 0) * x + 1 * 0 = 0
  grind
theorem prt_s (X : Int → Int) (k : Int) (m : Nat) : prt X k (m + 1) = if (m : Int) = k then prt X k m else mlz (X m) (prt X k m) := by
  unfold prt
  rw [itz_e, show (0 : Int) + (m : Int) = m by omega]
theorem prt_0 (X : Int → Int) (k : Int) : ∀ (m : Nat) (p : Int), (if k < m ∧ 0 ≤ k then (m : Int) - 1 else m) < p → prt X k m p = 0 := by
  intro m
  induction m with
  | zero =>
    intro p h
    exact if_neg (by split at h <;> omega)
  | succ m ih =>
    intro p h
    rw [prt_s]
    by_cases e : (m : Int) = k
    · rw [if_pos e]
      apply ih
      split at h <;> split <;> omega
    · rw [if_neg e]
      unfold mlz
      rw [ih p (by split at h <;> split <;> omega), Int.mul_zero, if_neg (by split at h <;> omega), ih (p - 1) (by split at h <;> split <;> omega)]
      rfl
/-- the product of x - X over m points but one -/
def woz (X : Int → Int) (k x : Int) (m : Nat) : Int := pdz (fun j => if j = k then 1 else x - X j) m 0
/-- the slope of that product -/
def swz (X : Int → Int) (k x : Int) (m : Nat) : Int := smz (fun b => (if b = k then 0 else 1) * pdz (fun j => if j = k then 1 else if j = b then 1 else x - X j) m 0) m 0
theorem woz_s (X : Int → Int) (k x : Int) (m : Nat) : woz X k x (m + 1) = woz X k x m * (if (m : Int) = k then 1 else x - X m) := by
  unfold woz
  rw [pdz_e, show (0 : Int) + (m : Int) = m by omega]
theorem swz_s (X : Int → Int) (k x : Int) (m : Nat) : swz X k x (m + 1) = swz X k x m * (if (m : Int) = k then 1 else x - X m) + (if (m : Int) = k then 0 else 1) * woz X k x m := by
  unfold swz
  rw [smz_e, show (0 : Int) + (m : Int) = m by omega]
  congr 1
  · rw [Int.mul_comm, ← smz_m]
    apply smz_c
    intro b h1 h2
    rw [pdz_e, show (0 : Int) + (m : Int) = m by omega, if_neg (show ¬ (m : Int) = b by omega), Int.mul_comm (if (m : Int) = k then 1 else x - X m), Int.mul_assoc]
  · congr 1
    rw [pdz_e, show (0 : Int) + (m : Int) = m by omega, if_pos (rfl : (m : Int) = m)]
    have : (if (m : Int) = k then (1 : Int) else 1) = 1 := by split <;> rfl
    rw [this, Int.mul_one]
    unfold woz
    apply pdz_c
    intro j h1 h2
    rw [if_neg (show ¬ j = (m : Int) by omega)]
theorem prt_v (X : Int → Int) (k x : Int) (k0 : 0 ≤ k) (k5 : k < 5) : ∀ m : Nat, (m : Int) ≤ 5 → evz (prt X k m) x = woz X k x m ∧ dvz (prt X k m) x = swz X k x m := by
  intro m
  induction m with
  | zero => intro _; exact ⟨evz_1 x, dvz_1 x⟩
  | succ m ih =>
    intro hm
    obtain ⟨i1, i2⟩ := ih (by omega)
    rw [prt_s, woz_s, swz_s]
    by_cases e : (m : Int) = k
    · rw [if_pos e, if_pos e, if_pos e, Int.mul_one, Int.mul_one, Int.zero_mul, Int.add_zero]
      exact ⟨i1, i2⟩
    · have z : prt X k m 4 = 0 := prt_0 X k m 4 (by split <;> omega)
      rw [if_neg e, if_neg e, if_neg e, evz_m _ _ _ z, dvz_m _ _ _ z, i1, i2, Int.one_mul]
      exact ⟨rfl, rfl⟩
/-- the coefficients of a sum of such products, each with its factor -/
def cfz (X T : Int → Int) (C m : Nat) (p : Int) : Int := smz (fun k => T k * prt X k C p) m 0
def plv (X T : Int → Int) (C m : Nat) (x : Int) : Int := smz (fun k => T k * woz X k x C) m 0
def dlv (X T : Int → Int) (C m : Nat) (x : Int) : Int := smz (fun k => T k * swz X k x C) m 0
theorem cfz_s (X T : Int → Int) (C m : Nat) (p : Int) : cfz X T C (m + 1) p = cfz X T C m p + T m * prt X m C p := by
  unfold cfz
  rw [smz_e, show (0 : Int) + (m : Int) = m by omega]
theorem cfz_v (X T : Int → Int) (C : Nat) (x : Int) (h5 : (C : Int) ≤ 5) : ∀ m : Nat, (m : Int) ≤ 5 → evz (cfz X T C m) x = plv X T C m x ∧ dvz (cfz X T C m) x = dlv X T C m x := by
  intro m
  induction m with
  | zero =>
    intro _
    refine ⟨?_, ?_⟩
    · show ((((0 * x + 0) * x + 0) * x + 0) * x + 0) * x + 0 = 0
      grind
    · show (((0 * x + 4 * 0) * x + 3 * 0) * x + 2 * 0) * x + 1 * 0 = 0
      grind
  | succ m ih =>
    intro hm
    obtain ⟨i1, i2⟩ := ih (by omega)
    obtain ⟨p1, p2⟩ := prt_v X m x (by omega) (by omega) C h5
    have f1 : plv X T C (m + 1) x = plv X T C m x + T m * woz X m x C := by
      unfold plv
      rw [smz_e, show (0 : Int) + (m : Int) = m by omega]
    have f2 : dlv X T C (m + 1) x = dlv X T C m x + T m * swz X m x C := by
      unfold dlv
      rw [smz_e, show (0 : Int) + (m : Int) = m by omega]
    rw [f1, f2, ← i1, ← i2, ← p1, ← p2]
    unfold evz dvz
    simp only [cfz_s]
    generalize prt X m C = q
    generalize cfz X T C m = r
    refine ⟨?_, ?_⟩ <;> grind
