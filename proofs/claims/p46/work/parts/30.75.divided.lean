/-! Step 26, divided. -/
theorem pdz_sh (f : Int → Int) (c : Int) : ∀ (m : Nat) (j : Int), pdz f m (j + c) = pdz (fun i => f (i + c)) m j := by
  intro m
  induction m with
  | zero => intro j; rfl
  | succ m ih =>
    intro j
    show f (j + c) * pdz f m (j + c + 1) = f (j + c) * pdz (fun i => f (i + c)) m (j + 1)
    rw [← ih, show j + c + 1 = j + 1 + c by omega]
/-- the product of the differences of a point and the others of a stretch -/
def dqz (X : Int → Int) (f b k : Int) : Int := pdz (fun m => if m = k then 1 else X k - X m) (b - f).toNat f
def qqz (X : Int → Int) (f b k : Int) : Int := (spz X f b).tdiv (dqz X f b k)
section DIV
variable {C f b k : Int} {X Y : Int → Int} {xs ys s : Nat → Int32}
theorem spz_e (X : Int → Int) (fb : f ≤ b) : spz X f (b + 1) = spz X f b * pdz (fun j => ((X b - X j).natAbs : Int)) (b - f).toNat f := by
  unfold spz
  rw [show (b + 1 - f).toNat = (b - f).toNat + 1 by omega, pdz_e, show f + ((b - f).toNat : Int) = b by omega]
theorem pdz_ab (g h : Int → Int) : ∀ (m : Nat) (j : Int), (∀ i, j ≤ i → i < j + m → g i ∣ h i) → pdz g m j ∣ pdz h m j := by
  intro m
  induction m with
  | zero => intro j _; exact Int.dvd_refl _
  | succ m ih =>
    intro j h1
    exact Int.mul_dvd_mul (h1 j (by omega) (by omega)) (ih (j + 1) (fun i a b => h1 i (by omega) (by omega)))
theorem dqz_d (X : Int → Int) (f k : Int) : ∀ (m : Nat), f ≤ k → k < f + m → dqz X f (f + m) k ∣ spz X f (f + m) := by
  intro m
  induction m with
  | zero => intro h1 h2; omega
  | succ m ih =>
    intro h1 h2
    have e0 : f + ((m + 1 : Nat) : Int) = f + m + 1 := by omega
    rw [e0, spz_e X (by omega)]
    have ed : dqz X f (f + m + 1) k = dqz X f (f + m) k * (if f + m = k then 1 else X k - X (f + m)) := by
      unfold dqz
      rw [show (f + m + 1 - f).toNat = (f + m - f).toNat + 1 by omega, pdz_e, show f + ((f + m - f).toNat : Int) = f + m by omega]
    rw [ed]
    by_cases e : f + m = k
    · rw [if_pos e, Int.mul_one]
      refine Int.dvd_mul_of_dvd_right ?_
      unfold dqz
      refine pdz_ab _ _ _ _ (fun i i0 i1 => ?_)
      rw [if_neg (by omega), e]
      exact Int.dvd_natAbs.2 (Int.dvd_refl _)
    · rw [if_neg e]
      refine Int.mul_dvd_mul (ih h1 (by omega)) ?_
      have h := pdz_dv (f := fun j => ((X (f + m) - X j).natAbs : Int)) (f + m - f).toNat f k h1 (by omega)
      have g : X k - X (f + m) ∣ ((X (f + m) - X k).natAbs : Int) := by
        refine Int.dvd_natAbs.2 ?_
        exact ⟨-1, by omega⟩
      exact Int.dvd_trans g h
theorem dqz_q (f0 : f ≤ k) (k1 : k < b) : dqz X f b k * qqz X f b k = spz X f b := by
  have h := dqz_d X f k (b - f).toNat f0 (by omega)
  rw [show f + ((b - f).toNat : Int) = b by omega] at h
  unfold qqz
  rw [Int.mul_comm]
  exact Int.tdiv_mul_cancel h
theorem spz_bf (f0 : 0 ≤ f) (fb : f ≤ b) (bC : b ≤ C) (h5 : C ≤ 5) (hr : Rz C (-9) 9 X) : 0 ≤ spz X f b ∧ spz X f b ≤ 3570467226624 := by
  have e : spz X f b = spz (fun i => X (i + f)) 0 (b - f) := by
    unfold spz
    have h := pdz_sh (fun k => pdz (fun j => ((X k - X j).natAbs : Int)) (k - f).toNat f) f (b - f).toNat 0
    rw [show (0 : Int) + f = f by omega] at h
    rw [h, show b - f - 0 = b - f by omega]
    refine pdz_c _ _ (fun i i0 i1 => ?_)
    have h2 := pdz_sh (fun j => ((X (i + f) - X j).natAbs : Int)) f (i + f - f).toNat 0
    rw [show (0 : Int) + f = f by omega] at h2
    rw [h2, show i + f - f = i - 0 by omega]
  rw [e]
  exact spz_b (C := b - f) (by omega) (by omega) (fun i i0 i1 => hr (i + f) (by omega) (by omega))
theorem spz_n0 (f0 : 0 ≤ f) (fb : f ≤ b) (bC : b ≤ C) (hi : Inj C X) : spz X f b ≠ 0 := by
  refine pdz_n _ _ (fun i i0 i1 => pdz_n _ _ (fun j j0 j1 => ?_))
  intro w
  have : X i = X j := by omega
  have := hi i j (by omega) (by omega) (by omega) (by omega) this
  omega
theorem qqz_b (f0 : 0 ≤ f) (fb : f ≤ k) (kb : k < b) (bC : b ≤ C) (h5 : C ≤ 5) (hr : Rz C (-9) 9 X) (hi : Inj C X) : (qqz X f b k).natAbs ≤ 3570467226624 := by
  have h := dqz_q (X := X) fb kb
  have s := spz_bf (b := b) f0 (by omega) bC h5 hr
  have n0 := spz_n0 (b := b) f0 (by omega) bC hi
  have d0 : dqz X f b k ≠ 0 := fun w => n0 (by rw [← h, w, Int.zero_mul])
  have := nab_le (a := qqz X f b k) d0
  rw [Int.mul_comm, h] at this
  omega
theorem div3_in (f0 : 0 ≤ f) (fb : f ≤ k) (kb : k < b) (bC : b ≤ C) (h5 : C ≤ 5) (hx : En 0 C xs X) (hr : Rz C (-9) 9 X) : lX3_putDivided_21 (z3 (b - 1)) (z3 k) xs FU 1 (z3 f) = some (z6 (dqz X f b k)) := by
  obtain ⟨a, e, p1, p2⟩ := runr (fun n j (a : Int64) => lX3_putDivided_21 (z3 (b - 1)) (z3 k) xs n a (z3 j)) (fun j a => f ≤ j ∧ a = z6 (pdz (fun m => if m = k then 1 else X k - X m) (j - f).toNat f)) b (fun a => a)
    (fun n j a hj hp => by
      obtain ⟨p1, p2⟩ := hp
      have r1 := hr k (by omega) (by omega)
      have r2 := hr j (by omega) (by omega)
      have e1 := hx.z (k := k) (by omega) (by omega)
      have e2 := hx.z (k := j) (by omega) (by omega)
      refine ⟨z6 (pdz (fun m => if m = k then 1 else X k - X m) (j + 1 - f).toNat f), ?_, by omega, rfl⟩
      rw [show (j + 1 - f).toNat = (j - f).toNat + 1 by omega, pdz_e, show f + ((j - f).toNat : Int) = j by omega]
      by_cases c : j = k
      · rw [if_pos c, lX3_putDivided_21, if_neg (fun z => by have := (z3lt (by omega) (by omega) (by omega) (by omega)).1 z; omega), if_pos (by rw [c]), p2, Int.mul_one, l3_1, z3a]
      · rw [if_neg c, lX3_putDivided_21, if_neg (fun z => by have := (z3lt (by omega) (by omega) (by omega) (by omega)).1 z; omega), if_neg (fun z => c ((z3eq (by omega) (by omega) (by omega) (by omega)).1 z)), xOfz (by omega) (by omega), Option.bind_some, xOfz (by omega) (by omega), Option.bind_some, e1, e2, z3s, z364 (by omega) (by omega), p2, z6m, l3_1, z3a])
    (fun n a hp => by
      try dsimp only
      rw [lX3_putDivided_21, if_pos ((z3lt (by omega) (by omega) (by omega) (by omega)).2 (by omega))])
    (b - f).toNat FU f (z6 1) (by omega) (fuel (by omega)) ⟨by omega, by rw [show (f - f).toNat = 0 by omega]; rfl⟩
  have e : lX3_putDivided_21 (z3 (b - 1)) (z3 k) xs FU 1 (z3 f) = some a := e
  rw [e, p2]
  rfl
theorem dsm_b (f0 : 0 ≤ f) (bC : b ≤ C) (h5 : C ≤ 5) (hr : Rz C (-9) 9 X) (hry : Rz C (-20) 20 Y) (hi : Inj C X) {n : Nat} (hn : f + n ≤ b) : (smz (fun k => Y k * qqz X f b k) n f).natAbs ≤ 357046722662400 := by
  have a := smz_b (f := fun k => Y k * qqz X f b k) (B := 71409344532480) n f (fun i i0 i1 => by
    have r := hry i (by omega) (by omega)
    exact natAbs_mul_le (A := 20) (B := 3570467226624) (by omega) (qqz_b f0 i0 (by omega) bC h5 hr hi))
  have : n * 71409344532480 ≤ 5 * 71409344532480 := Nat.mul_le_mul_right _ (by omega)
  omega
theorem div3 (f0 : 0 ≤ f) (fb : f < b) (bC : b ≤ C) (h5 : C ≤ 5) (hx : En 0 C xs X) (hy : En 0 C ys Y) (hr : Rz C (-9) 9 X) (hry : Rz C (-20) 20 Y) (hi : Inj C X) (u v : Int64) : mX3_putDivided xs ys u v (z3 f) (z3 (b - 1)) = some (z6 (rdB (smz (fun k => Y k * qqz X f b k) (b - f).toNat f) (spz X f b)), z6 (rdT (smz (fun k => Y k * qqz X f b k) (b - f).toNat f) (spz X f b))) := by
  have sb := spz_bf (b := b) f0 (by omega) bC h5 hr
  have s0 := spz_n0 (b := b) f0 (by omega) bC hi
  obtain ⟨a, e, p1, p2⟩ := runr (fun n j (a : Int64 × Int64) => lX3_putDivided_9 (z3 f) (z3 (b - 1)) xs ys n (z3 j) a.1 a.2) (fun j a => f ≤ j ∧ a = (z6 (rdB (smz (fun k => Y k * qqz X f b k) (j - f).toNat f) (spz X f b)), z6 (rdT (smz (fun k => Y k * qqz X f b k) (j - f).toNat f) (spz X f b)))) b (fun a => a)
    (fun n j a hj hp => by
      obtain ⟨p1, p2⟩ := hp
      have r2 := hry j (by omega) (by omega)
      have e2 := hy.z (k := j) (by omega) (by omega)
      have mb := dsm_b f0 bC h5 hr hry hi (n := (j - f).toNat + 1) (by omega)
      refine ⟨_, ?_, by omega, rfl⟩
      rw [show (j + 1 - f).toNat = (j - f).toNat + 1 by omega]
      rw [smz_e, show f + ((j - f).toNat : Int) = j by omega] at mb ⊢
      rw [lX3_putDivided_9, if_neg (fun z => by have := (z3lt (by omega) (by omega) (by omega) (by omega)).1 z; omega), div3_in f0 p1 hj bC h5 hx hr, Option.bind_some, yOfz (by omega) (by omega), Option.bind_some, e2, z364 (by omega) (by omega), p2]
      try dsimp only
      rw [addF (q := qqz X f b j) s0 (dqz_q p1 hj).symm (by omega) (by omega), Option.bind_some, l3_1, z3a])
    (fun n a hp => by
      try dsimp only
      rw [lX3_putDivided_9, if_pos ((z3lt (by omega) (by omega) (by omega) (by omega)).2 (by omega))])
    (b - f).toNat FU f (z6 (rdB 0 (spz X f b)), z6 (rdT 0 (spz X f b))) (by omega) (fuel (by omega)) ⟨by omega, by rw [show (f - f).toNat = 0 by omega]; rfl⟩
  have e : lX3_putDivided_9 (z3 f) (z3 (b - 1)) xs ys FU (z3 f) (z6 (rdB 0 (spz X f b))) (z6 (rdT 0 (spz X f b))) = some a := e
  unfold mX3_putDivided
  rw [put0 u v s0, Option.bind_some, e, Option.bind_some, p2]
end DIV