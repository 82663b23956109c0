/-! Step 26, divided. -/
theorem pdz_sh (f : Int → Int) (c : Int) : ∀ (m : Nat) (j : Int), pdz f m (j + c) = pdz (fun i => f (i + c)) m j := by
  intro m
  induction m with
  | zero => intro j; rfl
  | succ m ih =>
    intro j
    show f (j + c) * pdz f m (j + c + 1) = f (j + c) * pdz (fun i => f (i + c)) m (j + 1)
    rw [← ih, show j + c + 1 = j + 1 + c by omega]
/-- the product of the differences of a point and the others of a stretch -/
def dqz (X : Int → Int) (f b k : Int) : Int := pdz (fun m => if m = k then 1 else X k - X m) (b - f).toNat f
def qqz (X : Int → Int) (f b k : Int) : Int := (spz X f b).tdiv (dqz X f b k)
section DIV
variable {C f b k : Int} {X Y : Int → Int} {xs ys s : Nat → Int32}
theorem spz_e (X : Int → Int) (fb : f ≤ b) : spz X f (b + 1) = spz X f b * pdz (fun j => ((X b - X j).natAbs : Int)) (b - f).toNat f := by
  unfold spz
  rw [show (b + 1 - f).toNat = (b - f).toNat + 1 by omega, pdz_e, show f + ((b - f).toNat : Int) = b by omega]
theorem pdz_ab (g h : Int → Int) : ∀ (m : Nat) (j : Int), (∀ i, j ≤ i → i < j + m → g i ∣ h i) → pdz g m j ∣ pdz h m j := by
  intro m
  induction m with
  | zero => intro j _; exact Int.dvd_refl _
  | succ m ih =>
    intro j h1
    exact Int.mul_dvd_mul (h1 j (by omega) (by omega)) (ih (j + 1) (fun i a b => h1 i (by omega) (by omega)))
theorem dqz_d (X : Int → Int) (f k : Int) : ∀ (m : Nat), f ≤ k → k < f + m → dqz X f (f + m) k ∣ spz X f (f + m) := by
  intro m
  induction m with
  | zero => intro h1 h2; omega
  | succ m ih =>
    intro h1 h2
    have e0 : f + ((m + 1 : Nat) : Int) = f + m + 1 := by omega
    rw [e0, spz_e X (by omega)]
    have ed : dqz X f (f + m + 1) k = dqz X f (f + m) k * (if f + m = k then 1 else X k - X (f + m)) := by
      unfold dqz
      rw [show (f + m + 1 - f).toNat = (f + m - f).toNat + 1 by omega, pdz_e, show f + ((f + m - f).toNat : Int) = f + m by omega]
    rw [ed]
    by_cases e : f + m = k
    · rw [if_pos e, Int.mul_one]
      refine Int.dvd_mul_of_dvd_right ?_
      unfold dqz
      refine pdz_ab _ _ _ _ (fun i i0 i1 => ?_)
      rw [if_neg (by omega), e]
      exact Int.dvd_natAbs.2 (Int.dvd_refl _)
    · rw [if_neg e]
      refine Int.mul_dvd_mul (ih h1 (by omega)) ?_
      have h := pdz_dv (f := fun j => ((X (f + m) - X j).natAbs : Int)) (f + m - f).toNat f k h1 (by omega)
      have g : X k - X (f + m) ∣ ((X (f + m) - X k).natAbs : Int) := by
        refine Int.dvd_natAbs.2 ?_
        exact ⟨-1, by omega⟩
      exact Int.dvd_trans g h
theorem dqz_q (f0 : f ≤ k) (k1 : k < b) : dqz X f b k * qqz X f b k = spz X f b := by
  have h := dqz_d X f k (b - f).toNat f0 (by omega)
  rw [show f + ((b - f).toNat : Int) = b by omega] at h
  unfold qqz
  rw [Int.mul_comm]
  exact Int.tdiv_mul_cancel h
theorem spz_bf (f0 : 0 ≤ f) (fb : f ≤ b) (bC : b ≤ C) (h5 : C ≤ 5) (hr : Rz C (-9) 9 X) : 0 ≤ spz X f b ∧ spz X f b ≤ 3570467226624 := by
  have e : spz X f b = spz (fun i => X (i + f)) 0 (b - f) := by
    unfold spz
    have h := pdz_sh (fun k => pdz (fun j => ((X k - X j).natAbs : Int)) (k - f).toNat f) f (b - f).toNat 0
    rw [show (0 : Int) + f = f by omega] at h
    rw [h, show b - f - 0 = b - f by omega]
    refine pdz_c _ _ (fun i i0 i1 => ?_)
    have h2 := pdz_sh (fun j => ((X (i + f) - X j).natAbs : Int)) f (i + f - f).toNat 0
    rw [show (0 : Int) + f = f by omega] at h2
    rw [h2, show i + f - f = i - 0 by omega]
  rw [e]
  exact spz_b (C := b - f) (by omega) (by omega) (fun i i0 i1 => hr (i + f) (by omega) (by omega))
theorem spz_n0 (f0 : 0 ≤ f) (fb : f ≤ b) (bC : b ≤ C) (hi : Inj C X) : spz X f b ≠ 0 := by
  refine pdz_n _ _ (fun i i0 i1 => pdz_n _ _ (fun j j0 j1 => ?_))
  intro w
  have : X i = X j := by omega
  have := hi i j (by omega) (by omega) (by omega) (by omega) this
  omega
theorem qqz_b (f0 : 0 ≤ f) (fb : f ≤ k) (kb : k < b) (bC : b ≤ C) (h5 : C ≤ 5) (hr : Rz C (-9) 9 X) (hi : Inj C X) : (qqz X f b k).natAbs ≤ 3570467226624 := by
  have h := dqz_q (X := X) fb kb
  have s := spz_bf (b := b) f0 (by omega) bC h5 hr
  have n0 := spz_n0 (b := b) f0 (by omega) bC hi
  have d0 : dqz X f b k ≠ 0 := fun w => n0 (by rw [← h, w, Int.zero_mul])
  have := nab_le (a := qqz X f b k) d0
  rw [Int.mul_comm, h] at this
  omega
theorem div3_in (f0 : 0 ≤ f) (fb : f ≤ k) (kb : k < b) (bC : b ≤ C) (h5 : C ≤ 5) (hx : En 0 C xs X) (hr : Rz C (-9) 9 X) : lX3_putDivided_21 (z3 (b - 1)) (z3 k) xs FU 1 (z3 f) = some (z6 (dqz X f b k)) := by
  obtain ⟨a, e, p1, p2⟩ := runr (fun n j (a : Int64) => lX3_putDivided_21 (z3 (b - 1)) (z3 k) xs n a (z3 j)) (fun j a => f ≤ j ∧ a = z6 (pdz (fun m => if m = k then 1 else X k - X m) (j - f).toNat f)) b (fun a => a)
    (fun n j a hj hp => by
      obtain ⟨p1, p2⟩ := hp
      have r1 := hr k (by omega) (by omega)
      have r2 := hr j (by omega) (by omega)
      have e1 := hx.z (k := k) (by omega) (by omega)
      have e2 := hx.z (k := j) (by omega) (by omega)
      refine ⟨z6 (pdz (fun m => if m = k then 1 else X k - X m) (j + 1 - f).toNat f), ?_, by omega, rfl⟩
      rw [show (j + 1 - f).toNat = (j - f).toNat + 1 by omega, pdz_e, show f + ((j - f).toNat : Int) = j by omega]
      by_cases c : j = k
      · rw [if_pos c, lX3_putDivided_21, if_neg (fun z => by have := (z3lt (by omega) (by omega) (by omega) (by omega)).1 z; omega), if_pos (by rw [c]), p2, Int.mul_one, l3_1, z3a]
      · rw [if_neg c, lX3_putDivided_21, if_neg (fun z => by have := (z3lt (by omega) (by omega) (by omega) (by omega)).1 z; omega), if_neg (fun z => c ((z3eq (by omega) (by omega) (by omega) (by omega)).1 z)), xOfz (by omega) (by omega), Option.bind_some, xOfz (by omega) (by omega), Option.bind_some, e1, e2, z3s, z364 (by omega) (by omega), p2, z6m, l3_1, z3a])
    (fun n a hp => by
      try dsimp only
      rw [lX3_putDivided_21, if_pos ((z3lt (by omega) (by omega) (by omega) (by omega)).2 (by omega))])
    (b - f).toNat FU f (z6 1) (by omega) (fuel (by omega)) ⟨by omega, by rw [show (f - f).toNat = 0 by omega]; rfl⟩
  have e : lX3_putDivided_21 (z3 (b - 1)) (z3 k) xs FU 1 (z3 f) = some a := e
  rw [e, p2]
  rfl
theorem div7_in (f0 : 0 ≤ f) (fb : f ≤ k) (kb : k < b) (bC : b ≤ C) (h5 : C ≤ 5) (hx : En 3 C s X) (hr : Rz C (-9) 9 X) (hi : Inj C X) : lX7_laysDivided_25 (z3 b) (z3 k) s FU (z6 (spz X f b)) (z3 f) = some (z6 (qqz X f b k)) := by
  have qb := qqz_b f0 fb kb bC h5 hr hi
  have bd : ∀ (m : Nat) (j : Int), f ≤ j → j + m = b → (pdz (fun m => if m = k then 1 else X k - X m) m j * qqz X f b k).natAbs ≤ 1889568 * 3570467226624 := fun m j j0 j1 => by
    refine natAbs_mul_le ?_ qb
    have a : (pdz (fun m => if m = k then 1 else X k - X m) m j).natAbs ≤ 18 ^ m := pdz_b _ _ (fun i i0 i1 => by
      have r1 := hr k (by omega) (by omega)
      have r2 := hr i (by omega) (by omega)
      by_cases e : i = k
      · rw [if_pos e]
        omega
      · rw [if_neg e]
        omega)
    have b : 18 ^ m ≤ 18 ^ 5 := Nat.pow_le_pow_right (by omega) (by omega)
    have c : (18 : Nat) ^ 5 = 1889568 := by decide
    omega
  obtain ⟨a, e, p1, p2⟩ := runr (fun n j (a : Int64) => lX7_laysDivided_25 (z3 b) (z3 k) s n a (z3 j)) (fun j a => f ≤ j ∧ a = z6 (pdz (fun m => if m = k then 1 else X k - X m) (b - j).toNat j * qqz X f b k)) b (fun a => a)
    (fun n j a hj hp => by
      obtain ⟨p1, p2⟩ := hp
      have r1 := hr k (by omega) (by omega)
      have r2 := hr j (by omega) (by omega)
      have e1 := hx k (by omega) (by omega)
      have e2 := hx j (by omega) (by omega)
      have bb := bd (b - j).toNat j p1 (by omega)
      refine ⟨z6 (pdz (fun m => if m = k then 1 else X k - X m) (b - (j + 1)).toNat (j + 1) * qqz X f b k), ?_, by omega, rfl⟩
      have es : pdz (fun m => if m = k then 1 else X k - X m) (b - j).toNat j = (if j = k then 1 else X k - X j) * pdz (fun m => if m = k then 1 else X k - X m) (b - (j + 1)).toNat (j + 1) := by
        rw [show (b - j).toNat = (b - (j + 1)).toNat + 1 by omega]
        rfl
      rw [es] at p2 bb
      generalize pdz (fun m => if m = k then 1 else X k - X m) (b - (j + 1)).toNat (j + 1) = Q at *
      by_cases c : j = k
      · rw [if_pos c, Int.one_mul] at p2 bb
        rw [lX7_laysDivided_25, if_neg (fun z => by have := (z3le (by omega) (by omega) (by omega) (by omega)).1 z; omega), if_pos (by rw [c]), p2, l6_1, z6d (by omega) (by omega) (by omega) (by omega), Int.tdiv_one, l3_1, z3a]
      · rw [if_neg c] at p2 bb
        have n1 : X k - X j ≠ 0 := fun z => c (hi j k (by omega) (by omega) (by omega) (by omega) (by omega))
        have n0 : ¬ z6 (X k - X j) = 0 := fun z => n1 ((z6eq (by omega) (by omega) (by omega) (by omega)).1 (Eq.trans z l6_0))
        rw [lX7_laysDivided_25, if_neg (fun z => by have := (z3le (by omega) (by omega) (by omega) (by omega)).1 z; omega), if_neg (fun z => c ((z3eq (by omega) (by omega) (by omega) (by omega)).1 z)), show (3 : Int32) = z3 3 from rfl, z3a, z3a, if_neg (gix (by omega) (by omega) (by decide)), if_neg (gix (by omega) (by omega) (by decide)), z3nat (by omega) (by omega), z3nat (by omega) (by omega), e1, e2, z3s, z364 (by omega) (by omega), if_neg n0, p2, z6d (by omega) (by omega) (by omega) (by omega), Int.mul_assoc, Int.mul_tdiv_cancel_left _ n1, l3_1, z3a])
    (fun n a hp => by
      try dsimp only
      rw [lX7_laysDivided_25, if_pos ((z3le (by omega) (by omega) (by omega) (by omega)).2 (by omega))])
    (b - f).toNat FU f (z6 (spz X f b)) (by omega) (fuel (by omega)) ⟨by omega, by rw [← dqz_q fb kb]; rfl⟩
  rw [e, p2, show (b - b).toNat = 0 by omega]
  show some (z6 (1 * qqz X f b k)) = _
  rw [Int.one_mul]
theorem dsm_b (f0 : 0 ≤ f) (bC : b ≤ C) (h5 : C ≤ 5) (hr : Rz C (-9) 9 X) (hry : Rz C (-20) 20 Y) (hi : Inj C X) {n : Nat} (hn : f + n ≤ b) : (smz (fun k => Y k * qqz X f b k) n f).natAbs ≤ 357046722662400 := by
  have a := smz_b (f := fun k => Y k * qqz X f b k) (B := 71409344532480) n f (fun i i0 i1 => by
    have r := hry i (by omega) (by omega)
    exact natAbs_mul_le (A := 20) (B := 3570467226624) (by omega) (qqz_b f0 i0 (by omega) bC h5 hr hi))
  have : n * 71409344532480 ≤ 5 * 71409344532480 := Nat.mul_le_mul_right _ (by omega)
  omega
theorem div7 (f0 : 0 ≤ f) (fb : f < b) (bC : b ≤ C) (h5 : C ≤ 5) (hx : En 3 C s X) (hy : En 8 C s Y) (hr : Rz C (-9) 9 X) (hry : Rz C (-20) 20 Y) (hi : Inj C X) (lo up : Int64) : mX7_laysDivided lo s up (z3 f) (z3 b) = some (z6 (rdB (smz (fun k => Y k * qqz X f b k) (b - f).toNat f) (spz X f b)), z6 (rdT (smz (fun k => Y k * qqz X f b k) (b - f).toNat f) (spz X f b))) := by
  have sb := spz_bf (b := b) f0 (by omega) bC h5 hr
  have s0 := spz_n0 (b := b) f0 (by omega) bC hi
  have mb := dsm_b f0 bC h5 hr hry hi (n := (b - f).toNat) (by omega)
  obtain ⟨a, e, p1, p2⟩ := runr (fun n j (a : Int64) => lX7_laysDivided_13 (z3 f) (z3 b) (z6 (spz X f b)) s n a (z3 j)) (fun j a => f ≤ j ∧ a = z6 (smz (fun k => Y k * qqz X f b k) (j - f).toNat f)) b (fun a => a)
    (fun n j a hj hp => by
      obtain ⟨p1, p2⟩ := hp
      have r2 := hry j (by omega) (by omega)
      have e2 := hy j (by omega) (by omega)
      refine ⟨z6 (smz (fun k => Y k * qqz X f b k) (j + 1 - f).toNat f), ?_, by omega, rfl⟩
      rw [show (j + 1 - f).toNat = (j - f).toNat + 1 by omega, smz_e, show f + ((j - f).toNat : Int) = j by omega]
      rw [lX7_laysDivided_13, if_neg (fun z => by have := (z3le (by omega) (by omega) (by omega) (by omega)).1 z; omega), div7_in f0 p1 hj bC h5 hx hr hi, Option.bind_some, show (8 : Int32) = z3 8 from rfl, z3a, if_neg (gix (by omega) (by omega) (by decide)), z3nat (by omega) (by omega), e2, z364 (by omega) (by omega), p2, z6m, z6a, l3_1, z3a])
    (fun n a hp => by
      try dsimp only
      rw [lX7_laysDivided_13, if_pos ((z3le (by omega) (by omega) (by omega) (by omega)).2 (by omega))])
    (b - f).toNat FU f (z6 0) (by omega) (fuel (by omega)) ⟨by omega, by rw [show (f - f).toNat = 0 by omega]; rfl⟩
  have e : lX7_laysDivided_13 (z3 f) (z3 b) (z6 (spz X f b)) s FU 0 (z3 f) = some a := e
  unfold mX7_laysDivided
  rw [span7 h5 hx hr f0 (by omega) bC, Option.bind_some, e, Option.bind_some, p2, lays7 (by omega) (by omega) (by omega) (by omega) s0]
  rfl
theorem div3 (f0 : 0 ≤ f) (fb : f < b) (bC : b ≤ C) (h5 : C ≤ 5) (hx : En 0 C xs X) (hy : En 0 C ys Y) (hr : Rz C (-9) 9 X) (hry : Rz C (-20) 20 Y) (hi : Inj C X) (u v : Int64) : mX3_putDivided xs ys u v (z3 f) (z3 (b - 1)) = some (z6 (rdB (smz (fun k => Y k * qqz X f b k) (b - f).toNat f) (spz X f b)), z6 (rdT (smz (fun k => Y k * qqz X f b k) (b - f).toNat f) (spz X f b))) := by
  have sb := spz_bf (b := b) f0 (by omega) bC h5 hr
  have s0 := spz_n0 (b := b) f0 (by omega) bC hi
  obtain ⟨a, e, p1, p2⟩ := runr (fun n j (a : Int64 × Int64) => lX3_putDivided_9 (z3 f) (z3 (b - 1)) xs ys n (z3 j) a.1 a.2) (fun j a => f ≤ j ∧ a = (z6 (rdB (smz (fun k => Y k * qqz X f b k) (j - f).toNat f) (spz X f b)), z6 (rdT (smz (fun k => Y k * qqz X f b k) (j - f).toNat f) (spz X f b)))) b (fun a => a)
    (fun n j a hj hp => by
      obtain ⟨p1, p2⟩ := hp
      have r2 := hry j (by omega) (by omega)
      have e2 := hy.z (k := j) (by omega) (by omega)
      have mb := dsm_b f0 bC h5 hr hry hi (n := (j - f).toNat + 1) (by omega)
      refine ⟨_, ?_, by omega, rfl⟩
      rw [show (j + 1 - f).toNat = (j - f).toNat + 1 by omega]
      rw [smz_e, show f + ((j - f).toNat : Int) = j by omega] at mb ⊢
      rw [lX3_putDivided_9, if_neg (fun z => by have := (z3lt (by omega) (by omega) (by omega) (by omega)).1 z; omega), div3_in f0 p1 hj bC h5 hx hr, Option.bind_some, yOfz (by omega) (by omega), Option.bind_some, e2, z364 (by omega) (by omega), p2]
      try dsimp only
      rw [addF (q := qqz X f b j) s0 (dqz_q p1 hj).symm (by omega) (by omega), Option.bind_some, l3_1, z3a])
    (fun n a hp => by
      try dsimp only
      rw [lX3_putDivided_9, if_pos ((z3lt (by omega) (by omega) (by omega) (by omega)).2 (by omega))])
    (b - f).toNat FU f (z6 (rdB 0 (spz X f b)), z6 (rdT 0 (spz X f b))) (by omega) (fuel (by omega)) ⟨by omega, by rw [show (f - f).toNat = 0 by omega]; rfl⟩
  have e : lX3_putDivided_9 (z3 f) (z3 (b - 1)) xs ys FU (z3 f) (z6 (rdB 0 (spz X f b))) (z6 (rdT 0 (spz X f b))) = some a := e
  unfold mX3_putDivided
  rw [put0 u v s0, Option.bind_some, e, Option.bind_some, p2]
end DIV
theorem ok_26 : SOK q_26 := by
  intro u z h
  obtain ⟨a, hO, ⟨⟨hc, hd, hm, hw, hx, hy⟩, ⟨hv, ho, hwt⟩⟩, ⟨s0, s1, s2, tx, ty, tw⟩⟩ := h.1
  have O := hO
  obtain ⟨h0, h5, m0, m1, d0, d1, hr, hry, hrw, hi⟩ := O
  have hbw := hO.bw
  obtain ⟨p, p0, p1, hu⟩ := ex3 (u 1)
  obtain ⟨q, q0, q1, hu2⟩ := ex3 (u 2)
  obtain ⟨y, y0, y1, hu3⟩ := ex3 (u 3)
  unfold q_26
  rw [hu, hu2, hu3]
  have HP : ∃ b, mX7_isPart (z3 y) = some b ∧ (b = 0 ∨ b = 1) := by
    by_cases c2 : 0 ≤ y ∧ y ≤ 1
    · exact ⟨1, ip_y c2 y0 y1, Or.inr rfl⟩
    · exact ⟨0, ip_n c2 y0 y1, Or.inl rfl⟩
  obtain ⟨bp, HP, hbp⟩ := HP
  by_cases c1 : 0 ≤ p ∧ p < zC a
  · by_cases c4 : 0 ≤ q ∧ q < zC a
    · by_cases c2 : 0 ≤ y ∧ y ≤ 1
      · by_cases c3 : p ≤ q
        · have A3 := div3 (f := p) (b := q + 1) c1.1 (by omega) (by omega) h5 hx hy hr hry hi (a6_answer_bottom z.1) (a6_answer_top z.1)
          rw [show q + 1 - 1 = q by omega] at A3
          have A7 := div7 (f := p) (b := q + 1) c1.1 (by omega) (by omega) h5 tx ty hr hry hi (a7_low z.2.1) (a7_up z.2.1)
          generalize rdB (smz (fun k => zY a k * qqz (zX a) p (q + 1) k) (q + 1 - p).toNat p) (spz (zX a) p (q + 1)) = vb at A3 A7
          generalize rdT (smz (fun k => zY a k * qqz (zX a) p (q + 1) k) (q + 1 - p).toNat p) (spz (zX a) p (q + 1)) = vt at A3 A7
          have eq1 : z3 q + 1 = z3 (q + 1) := by rw [l3_1, z3a]
          have m6 : mX6_divided (a6_answer_bottom z.1) (a6_answer_top z.1) (a6_present_nodes_count z.1) (a6_present_nodes_xs z.1) (a6_present_nodes_ys z.1) (z3 p) (z3 q) (z3 y) = some (0, (if y = 0 then z6 vt else z6 vb), z6 vb, z6 vt) := by
            unfold mX6_divided
            rw [hc, nt_y h0 h5 c1 p0 p1, Option.bind_some, if_pos rfl, nt_y h0 h5 c4 q0 q1, Option.bind_some, if_pos rfl, np_y c2 y0 y1, Option.bind_some, if_pos rfl, l3_0, nb_y ⟨c1.1, c3⟩ p0 p1 (by omega) (by omega) q0 q1, Option.bind_some, if_pos rfl, A3, Option.bind_some, part3 _ _ c2]
            rfl
          have m7 : mX7_divided (a7_low z.2.1) (a7_s z.2.1) (a7_thrown z.2.1) (a7_up z.2.1) (z3 p) (z3 q) (z3 y) = some ((if y = 0 then z6 vt else z6 vb), z6 vb, 0, z6 vt) := by
            unfold mX7_divided
            rw [it_y s2 h0 h5 c1 p0 p1, Option.bind_some, if_neg n10, it_y s2 h0 h5 c4 q0 q1, Option.bind_some, if_neg n10, ip_y c2 y0 y1, Option.bind_some, if_neg n10, if_neg (fun w => by have := (z3lt q0 q1 p0 p1).1 w; omega), g2_11, Option.bind_some, if_neg n10, eq1, A7, Option.bind_some, told7 _ _ c2]
            rfl
          have E6 : ∃ σ1 o1, h_divided z.1 (z3 p) (z3 q) (z3 y) z.2.2.1 = some (0, σ1, o1) ∧ (o1 0 = o1 0) ∧ ((0 : Int32) = 0 → o1 = vp_updL z.2.2.1 0 (if y = 0 then z6 vt else z6 vb)) ∧ ∀ τ, JZ z.1 τ → JZ σ1 τ := by
            apply Exists.intro
            apply Exists.intro
            refine ⟨?_, rfl, ?_, ?_⟩
            · unfold h_divided s6_divided
              rw [m6]
              rfl
            · exact fun _ => rfl
            · exact fun τ h => h
          have E7 : ∃ v1 τ1, s7_divided z.2.1 (z3 p) (z3 q) (z3 y) = some (v1, τ1) ∧ a7_thrown τ1 = 0 ∧ ((0 : Int32) = 0 → (if y = 0 then z6 vt else z6 vb) = (fun x => x) v1) ∧ ∀ σ, JZ σ z.2.1 → JZ σ τ1 := by
            apply Exists.intro
            apply Exists.intro
            refine ⟨?_, ?_, ?_, ?_⟩
            · unfold s7_divided
              rw [m7]
              rfl
            · rfl
            · exact fun _ => rfl
            · exact fun σ h => h
          obtain ⟨σ1, o1, e6, -, v6, j6⟩ := E6
          obtain ⟨w1, τ1, e7, t7, v7, j7⟩ := E7
          exact fin1 (fun x => x) e6 e7 t7 (fun w => by rw [v6 w, updL_s]; exact v7 w) (j7 _ (j6 _ h))
        · have m6 : mX6_divided (a6_answer_bottom z.1) (a6_answer_top z.1) (a6_present_nodes_count z.1) (a6_present_nodes_xs z.1) (a6_present_nodes_ys z.1) (z3 p) (z3 q) (z3 y) = some (2, 0, a6_answer_bottom z.1, a6_answer_top z.1) := by
            unfold mX6_divided
            rw [hc, nt_y h0 h5 c1 p0 p1, Option.bind_some, if_pos rfl, nt_y h0 h5 c4 q0 q1, Option.bind_some, if_pos rfl, np_y c2 y0 y1, Option.bind_some, if_pos rfl, show mX6_needBetween (z3 p) 0 (z3 q) = some 2 by rw [l3_0, nb_n (fun w => c3 w.2) p0 p1 (by omega) (by omega) q0 q1]]
            rfl
          have m7 : mX7_divided (a7_low z.2.1) (a7_s z.2.1) (a7_thrown z.2.1) (a7_up z.2.1) (z3 p) (z3 q) (z3 y) = some (0, a7_low z.2.1, 2, a7_up z.2.1) := by
            unfold mX7_divided
            rw [it_y s2 h0 h5 c1 p0 p1, Option.bind_some, if_neg n10, it_y s2 h0 h5 c4 q0 q1, Option.bind_some, if_neg n10, ip_y c2 y0 y1, Option.bind_some, if_neg n10, if_pos ((z3lt q0 q1 p0 p1).2 (by omega)), g2_10]
            rfl
          have E6 : ∃ σ1 o1, h_divided z.1 (z3 p) (z3 q) (z3 y) z.2.2.1 = some (2, σ1, o1) ∧ (o1 0 = o1 0) ∧ ((2 : Int32) = 0 → o1 = vp_updL z.2.2.1 0 (0)) ∧ ∀ τ, JZ z.1 τ → JZ σ1 τ := by
            apply Exists.intro
            apply Exists.intro
            refine ⟨?_, rfl, ?_, ?_⟩
            · unfold h_divided s6_divided
              rw [m6]
              rfl
            · exact fun w => absurd w (by decide)
            · exact fun τ h => h
          have E7 : ∃ v1 τ1, s7_divided z.2.1 (z3 p) (z3 q) (z3 y) = some (v1, τ1) ∧ a7_thrown τ1 = 2 ∧ ((2 : Int32) = 0 → (0) = (fun x => x) v1) ∧ ∀ σ, JZ σ z.2.1 → JZ σ τ1 := by
            apply Exists.intro
            apply Exists.intro
            refine ⟨?_, ?_, ?_, ?_⟩
            · unfold s7_divided
              rw [m7]
              rfl
            · rfl
            · exact fun w => absurd w (by decide)
            · exact fun σ h => h
          obtain ⟨σ1, o1, e6, -, v6, j6⟩ := E6
          obtain ⟨w1, τ1, e7, t7, v7, j7⟩ := E7
          exact fin1 (fun x => x) e6 e7 t7 (fun w => by rw [v6 w, updL_s]; exact v7 w) (j7 _ (j6 _ h))
      · have m6 : mX6_divided (a6_answer_bottom z.1) (a6_answer_top z.1) (a6_present_nodes_count z.1) (a6_present_nodes_xs z.1) (a6_present_nodes_ys z.1) (z3 p) (z3 q) (z3 y) = some (2, 0, a6_answer_bottom z.1, a6_answer_top z.1) := by
          unfold mX6_divided
          rw [hc, nt_y h0 h5 c1 p0 p1, Option.bind_some, if_pos rfl, nt_y h0 h5 c4 q0 q1, Option.bind_some, if_pos rfl, np_n c2 y0 y1]
          rfl
        have m7 : mX7_divided (a7_low z.2.1) (a7_s z.2.1) (a7_thrown z.2.1) (a7_up z.2.1) (z3 p) (z3 q) (z3 y) = some (0, a7_low z.2.1, 2, a7_up z.2.1) := by
          unfold mX7_divided
          rw [it_y s2 h0 h5 c1 p0 p1, Option.bind_some, if_neg n10, it_y s2 h0 h5 c4 q0 q1, Option.bind_some, if_neg n10, ip_n c2 y0 y1, Option.bind_some, if_pos rfl, g2_10]
          rfl
        have E6 : ∃ σ1 o1, h_divided z.1 (z3 p) (z3 q) (z3 y) z.2.2.1 = some (2, σ1, o1) ∧ (o1 0 = o1 0) ∧ ((2 : Int32) = 0 → o1 = vp_updL z.2.2.1 0 (0)) ∧ ∀ τ, JZ z.1 τ → JZ σ1 τ := by
          apply Exists.intro
          apply Exists.intro
          refine ⟨?_, rfl, ?_, ?_⟩
          · unfold h_divided s6_divided
            rw [m6]
            rfl
          · exact fun w => absurd w (by decide)
          · exact fun τ h => h
        have E7 : ∃ v1 τ1, s7_divided z.2.1 (z3 p) (z3 q) (z3 y) = some (v1, τ1) ∧ a7_thrown τ1 = 2 ∧ ((2 : Int32) = 0 → (0) = (fun x => x) v1) ∧ ∀ σ, JZ σ z.2.1 → JZ σ τ1 := by
          apply Exists.intro
          apply Exists.intro
          refine ⟨?_, ?_, ?_, ?_⟩
          · unfold s7_divided
            rw [m7]
            rfl
          · rfl
          · exact fun w => absurd w (by decide)
          · exact fun σ h => h
        obtain ⟨σ1, o1, e6, -, v6, j6⟩ := E6
        obtain ⟨w1, τ1, e7, t7, v7, j7⟩ := E7
        exact fin1 (fun x => x) e6 e7 t7 (fun w => by rw [v6 w, updL_s]; exact v7 w) (j7 _ (j6 _ h))
    · have m6 : mX6_divided (a6_answer_bottom z.1) (a6_answer_top z.1) (a6_present_nodes_count z.1) (a6_present_nodes_xs z.1) (a6_present_nodes_ys z.1) (z3 p) (z3 q) (z3 y) = some (1, 0, a6_answer_bottom z.1, a6_answer_top z.1) := by
        unfold mX6_divided
        rw [hc, nt_y h0 h5 c1 p0 p1, Option.bind_some, if_pos rfl, nt_n h0 h5 c4 q0 q1]
        rfl
      have m7 : mX7_divided (a7_low z.2.1) (a7_s z.2.1) (a7_thrown z.2.1) (a7_up z.2.1) (z3 p) (z3 q) (z3 y) = some (0, a7_low z.2.1, 1, a7_up z.2.1) := by
        unfold mX7_divided
        rw [it_y s2 h0 h5 c1 p0 p1, Option.bind_some, if_neg n10, it_n s2 h0 h5 c4 q0 q1, Option.bind_some, if_pos rfl, HP, Option.bind_some]
        rcases hbp with rfl | rfl
        · rw [if_pos rfl, g2_0]; rfl
        · (by_cases w : z3 q < z3 p) <;> first | (rw [if_neg n10, if_pos w, g2_0]; rfl) | (rw [if_neg n10, if_neg w, g2_0]; rfl)
      have E6 : ∃ σ1 o1, h_divided z.1 (z3 p) (z3 q) (z3 y) z.2.2.1 = some (1, σ1, o1) ∧ (o1 0 = o1 0) ∧ ((1 : Int32) = 0 → o1 = vp_updL z.2.2.1 0 (0)) ∧ ∀ τ, JZ z.1 τ → JZ σ1 τ := by
        apply Exists.intro
        apply Exists.intro
        refine ⟨?_, rfl, ?_, ?_⟩
        · unfold h_divided s6_divided
          rw [m6]
          rfl
        · exact fun w => absurd w (by decide)
        · exact fun τ h => h
      have E7 : ∃ v1 τ1, s7_divided z.2.1 (z3 p) (z3 q) (z3 y) = some (v1, τ1) ∧ a7_thrown τ1 = 1 ∧ ((1 : Int32) = 0 → (0) = (fun x => x) v1) ∧ ∀ σ, JZ σ z.2.1 → JZ σ τ1 := by
        apply Exists.intro
        apply Exists.intro
        refine ⟨?_, ?_, ?_, ?_⟩
        · unfold s7_divided
          rw [m7]
          rfl
        · rfl
        · exact fun w => absurd w (by decide)
        · exact fun σ h => h
      obtain ⟨σ1, o1, e6, -, v6, j6⟩ := E6
      obtain ⟨w1, τ1, e7, t7, v7, j7⟩ := E7
      exact fin1 (fun x => x) e6 e7 t7 (fun w => by rw [v6 w, updL_s]; exact v7 w) (j7 _ (j6 _ h))
  · have m6 : mX6_divided (a6_answer_bottom z.1) (a6_answer_top z.1) (a6_present_nodes_count z.1) (a6_present_nodes_xs z.1) (a6_present_nodes_ys z.1) (z3 p) (z3 q) (z3 y) = some (1, 0, a6_answer_bottom z.1, a6_answer_top z.1) := by
      unfold mX6_divided
      rw [hc, nt_n h0 h5 c1 p0 p1]
      rfl
    have m7 : mX7_divided (a7_low z.2.1) (a7_s z.2.1) (a7_thrown z.2.1) (a7_up z.2.1) (z3 p) (z3 q) (z3 y) = some (0, a7_low z.2.1, 1, a7_up z.2.1) := by
      unfold mX7_divided
      rw [it_n s2 h0 h5 c1 p0 p1, Option.bind_some, if_pos rfl, HP, Option.bind_some]
      rcases hbp with rfl | rfl
      · rw [if_pos rfl, g2_0]; rfl
      · (by_cases w : z3 q < z3 p) <;> first | (rw [if_neg n10, if_pos w, g2_0]; rfl) | (rw [if_neg n10, if_neg w, g2_0]; rfl)
    have E6 : ∃ σ1 o1, h_divided z.1 (z3 p) (z3 q) (z3 y) z.2.2.1 = some (1, σ1, o1) ∧ (o1 0 = o1 0) ∧ ((1 : Int32) = 0 → o1 = vp_updL z.2.2.1 0 (0)) ∧ ∀ τ, JZ z.1 τ → JZ σ1 τ := by
      apply Exists.intro
      apply Exists.intro
      refine ⟨?_, rfl, ?_, ?_⟩
      · unfold h_divided s6_divided
        rw [m6]
        rfl
      · exact fun w => absurd w (by decide)
      · exact fun τ h => h
    have E7 : ∃ v1 τ1, s7_divided z.2.1 (z3 p) (z3 q) (z3 y) = some (v1, τ1) ∧ a7_thrown τ1 = 1 ∧ ((1 : Int32) = 0 → (0) = (fun x => x) v1) ∧ ∀ σ, JZ σ z.2.1 → JZ σ τ1 := by
      apply Exists.intro
      apply Exists.intro
      refine ⟨?_, ?_, ?_, ?_⟩
      · unfold s7_divided
        rw [m7]
        rfl
      · rfl
      · exact fun w => absurd w (by decide)
      · exact fun σ h => h
    obtain ⟨σ1, o1, e6, -, v6, j6⟩ := E6
    obtain ⟨w1, τ1, e7, t7, v7, j7⟩ := E7
    exact fin1 (fun x => x) e6 e7 t7 (fun w => by rw [v6 w, updL_s]; exact v7 w) (j7 _ (j6 _ h))
