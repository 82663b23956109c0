/-! The sum over the other points: slope and row. -/
theorem pdz_dv {f : Int → Int} : ∀ (m : Nat) (j i : Int), j ≤ i → i < j + m → f i ∣ pdz f m j := by
  intro m
  induction m with
  | zero => intro j i h1 h2; omega
  | succ m ih =>
    intro j i h1 h2
    show f i ∣ f j * pdz f m (j + 1)
    by_cases w : i = j
    · rw [w]
      exact Int.dvd_mul_right _ _
    · exact Int.dvd_mul_of_dvd_right (ih (j + 1) i (by omega) (by omega))
/-- the product of all differences to a point -/
def ozz (C : Int) (X : Int → Int) (k : Int) : Int := pdz (fun j => if j = k then 1 else X k - X j) C.toNat 0
/-- a term of the sum -/
def ozt (C : Int) (X wt F : Int → Int) (k j : Int) : Int := if j = k then 0 else wt j * F j * (ozz C X k).tdiv (X k - X j)
section OTH
variable {C k : Int} {X Y wt F : Int → Int} {xs ys s : Nat → Int32} {w : Nat → Int64}
theorem ozz_n (hi : Inj C X) (k0 : 0 ≤ k) (k1 : k < C) : ozz C X k ≠ 0 := by
  refine pdz_n _ _ (fun i i0 i1 => ?_)
  by_cases e : i = k
  · rw [if_pos e]
    omega
  · rw [if_neg e]
    intro q
    exact e (hi i k i0 (by omega) k0 k1 (by omega))
theorem ozz_b (h0 : 0 ≤ C) (h5 : C ≤ 5) (hr : Rz C (-9) 9 X) (k0 : 0 ≤ k) (k1 : k < C) : (ozz C X k).natAbs ≤ 1889568 := by
  have a : (ozz C X k).natAbs ≤ 18 ^ C.toNat := pdz_b _ _ (fun i i0 i1 => by
    have r1 := hr k k0 k1
    have r2 := hr i i0 (by omega)
    by_cases e : i = k
    · rw [if_pos e]
      omega
    · rw [if_neg e]
      omega)
  have b : 18 ^ C.toNat ≤ 18 ^ 5 := Nat.pow_le_pow_right (by omega) (by omega)
  have c : (18 : Nat) ^ 5 = 1889568 := by decide
  omega
theorem ozz_d (hi : Inj C X) {j : Int} (j0 : 0 ≤ j) (j1 : j < C) (hj : j ≠ k) : (ozz C X k).tdiv (X k - X j) * (X k - X j) = ozz C X k := by
  have h := pdz_dv (f := fun j => if j = k then 1 else X k - X j) C.toNat 0 j j0 (by omega)
  rw [if_neg hj] at h
  exact Int.tdiv_mul_cancel h
theorem ozt_b (h0 : 0 ≤ C) (h5 : C ≤ 5) (hr : Rz C (-9) 9 X) (hi : Inj C X) (hb : Bw C wt) (hF : ∀ j, 0 ≤ j → j < C → (F j).natAbs ≤ 40) (k0 : 0 ≤ k) (k1 : k < C) {j : Int} (j0 : 0 ≤ j) (j1 : j < C) : (ozt C X wt F k j).natAbs ≤ 482013075594240000 := by
  unfold ozt
  by_cases e : j = k
  · rw [if_pos e]
    omega
  · rw [if_neg e]
    have d := ozz_d hi (k := k) j0 j1 e
    have q := ozz_b h0 h5 hr k0 k1
    have n0 : X k - X j ≠ 0 := fun z => e (hi j k j0 j1 k0 k1 (by omega))
    have b1 : ((ozz C X k).tdiv (X k - X j)).natAbs ≤ 1889568 := by
      have := nab_le (a := (ozz C X k).tdiv (X k - X j)) n0
      rw [d] at this
      omega
    have := natAbs_mul_le (natAbs_mul_le (hb j j0 j1) (hF j j0 j1)) b1
    omega
theorem osm_b (h0 : 0 ≤ C) (h5 : C ≤ 5) (hr : Rz C (-9) 9 X) (hi : Inj C X) (hb : Bw C wt) (hF : ∀ j, 0 ≤ j → j < C → (F j).natAbs ≤ 40) (k0 : 0 ≤ k) (k1 : k < C) {n : Nat} (hn : (n : Int) ≤ C) : (smz (ozt C X wt F k) n 0).natAbs ≤ 2410065377971200000 := by
  have a := smz_b (f := ozt C X wt F k) (B := 482013075594240000) n 0 (fun i i0 i1 => ozt_b h0 h5 hr hi hb hF k0 k1 i0 (by omega))
  have : n * 482013075594240000 ≤ 5 * 482013075594240000 := Nat.mul_le_mul_right _ (by omega)
  omega
theorem wok_b (h0 : 0 ≤ C) (h5 : C ≤ 5) (hr : Rz C (-9) 9 X) (hb : Bw C wt) (k0 : 0 ≤ k) (k1 : k < C) : (wt k * ozz C X k).natAbs ≤ 12050326889856000 := natAbs_mul_le (hb k k0 k1) (ozz_b h0 h5 hr k0 k1)
theorem oth5 (h0 : 0 ≤ C) (h5 : C ≤ 5) (hs2 : s 2 = z3 C) (hx : En 3 C s X) (hr : Rz C (-9) 9 X) (k0 : 0 ≤ k) (k1 : k < C) : lX7_laysOthers_5 (z3 k) s FU 1 0 = some (z6 (ozz C X k)) := by
  obtain ⟨a, e, p1, p2⟩ := runr (fun n j (a : Int64) => lX7_laysOthers_5 (z3 k) s n a (z3 j)) (fun j a => 0 ≤ j ∧ a = z6 (pdz (fun j => if j = k then 1 else X k - X j) j.toNat 0)) C (fun a => a)
    (fun n j a hj hp => by
      obtain ⟨p1, p2⟩ := hp
      obtain ⟨g2, f2⟩ := s2c hs2
      have r1 := hr k k0 k1
      have r2 := hr j p1 hj
      have e1 := hx k k0 k1
      have e2 := hx j p1 hj
      refine ⟨z6 (pdz (fun j => if j = k then 1 else X k - X j) (j + 1).toNat 0), ?_, by omega, rfl⟩
      rw [show (j + 1).toNat = j.toNat + 1 by omega, pdz_e, show (0 : Int) + (j.toNat : Int) = j by omega]
      by_cases c : j = k
      · rw [if_pos c, lX7_laysOthers_5, if_neg g2, f2, if_neg (fun z => by have := (z3le (by omega) (by omega) (by omega) (by omega)).1 z; omega), if_pos (by rw [c]), p2, l6_1, z6m, l3_1, z3a]
      · rw [if_neg c, lX7_laysOthers_5, if_neg g2, f2, if_neg (fun z => by have := (z3le (by omega) (by omega) (by omega) (by omega)).1 z; omega), if_neg (fun z => c ((z3eq (by omega) (by omega) (by omega) (by omega)).1 z)), show (3 : Int32) = z3 3 from rfl, z3a, z3a, if_neg (gix (by omega) (by omega) (by decide)), if_neg (gix (by omega) (by omega) (by decide)), z3nat (by omega) (by omega), z3nat (by omega) (by omega), e1, e2, z3s, z364 (by omega) (by omega), p2, z6m, l3_1, z3a])
    (fun n a hp => by
      obtain ⟨g2, f2⟩ := s2c hs2
      try dsimp only
      rw [lX7_laysOthers_5, if_neg g2, f2, if_pos ((z3le (by omega) (by omega) (by omega) (by omega)).2 (by omega))])
    C.toNat FU 0 (z6 1) (by omega) (fuel (by omega)) ⟨by omega, rfl⟩
  have e : lX7_laysOthers_5 (z3 k) s FU 1 0 = some a := e
  rw [e, p2]
  rfl
theorem oth60 (h0 : 0 ≤ C) (h5 : C ≤ 5) (hs2 : s 2 = z3 C) (hx : En 3 C s X) (hy : En 8 C s Y) (hr : Rz C (-9) 9 X) (hry : Rz C (-20) 20 Y) (hi : Inj C X) (hw : E6 C w wt) (k0 : 0 ≤ k) (k1 : k < C) {fl : Int32} (hf : (fl = 0 ∧ F = fun _ => 1) ∨ (fl = 1 ∧ F = fun j => Y j - Y k)) : lX7_laysOthers_60 (z3 k) fl (z6 (ozz C X k)) s w FU 0 0 = some (z6 (smz (ozt C X wt F k) C.toNat 0)) := by
  have ob := ozz_b h0 h5 hr k0 k1
  obtain ⟨a, e, p1, p2⟩ := runr (fun n j (a : Int64) => lX7_laysOthers_60 (z3 k) fl (z6 (ozz C X k)) s w n a (z3 j)) (fun j a => 0 ≤ j ∧ a = z6 (smz (ozt C X wt F k) j.toNat 0)) C (fun a => a)
    (fun n j a hj hp => by
      obtain ⟨p1, p2⟩ := hp
      obtain ⟨g2, f2⟩ := s2c hs2
      have r1 := hr k k0 k1
      have r2 := hr j p1 hj
      have e1 := hx k k0 k1
      have e2 := hx j p1 hj
      have r3 := hry k k0 k1
      have r4 := hry j p1 hj
      have e3 := hy k k0 k1
      have e4 := hy j p1 hj
      have ew := hw j p1 hj
      refine ⟨z6 (smz (ozt C X wt F k) (j + 1).toNat 0), ?_, by omega, rfl⟩
      rw [show (j + 1).toNat = j.toNat + 1 by omega, smz_e, show (0 : Int) + (j.toNat : Int) = j by omega]
      by_cases c : j = k
      · unfold ozt
        rw [if_pos c, lX7_laysOthers_60, if_neg g2, f2, if_neg (fun z => by have := (z3le (by omega) (by omega) (by omega) (by omega)).1 z; omega), if_pos (by rw [c]), l3_1, z3a, p2, Int.add_zero]
        rfl
      · have n0 : ¬ z6 (X k - X j) = 0 := fun z => by
          have := (z6eq (by omega) (by omega) (by omega) (by omega)).1 (Eq.trans z l6_0)
          exact c (hi j k p1 hj k0 k1 (by omega))
        have et : ozt C X wt F k j = wt j * F j * (ozz C X k).tdiv (X k - X j) := if_neg c
        rw [et]
        rcases hf with ⟨rfl, rfl⟩ | ⟨rfl, rfl⟩
        · rw [lX7_laysOthers_60, if_neg g2, f2, if_neg (fun z => by have := (z3le (by omega) (by omega) (by omega) (by omega)).1 z; omega), if_neg (fun z => c ((z3eq (by omega) (by omega) (by omega) (by omega)).1 z)), if_neg (gix (by omega) (by omega) (by decide)), if_pos rfl, show (3 : Int32) = z3 3 from rfl, z3a, z3a, if_neg (gix (by omega) (by omega) (by decide)), if_neg (gix (by omega) (by omega) (by decide)), z3nat (by omega) (by omega), z3nat (by omega) (by omega), e1, e2, z3s, z364 (by omega) (by omega), if_neg n0, z3nat (by omega) (by omega), ew, z6d (by omega) (by omega) (by omega) (by omega), l3_1, z364 (by omega) (by omega), z6m, z6m, p2, z6a, z3a]
        · rw [lX7_laysOthers_60, if_neg g2, f2, if_neg (fun z => by have := (z3le (by omega) (by omega) (by omega) (by omega)).1 z; omega), if_neg (fun z => c ((z3eq (by omega) (by omega) (by omega) (by omega)).1 z)), if_neg (gix (by omega) (by omega) (by decide)), if_neg n10, show (3 : Int32) = z3 3 from rfl, show (8 : Int32) = z3 8 from rfl, z3a, z3a, z3a, z3a, if_neg (gix (by omega) (by omega) (by decide)), if_neg (gix (by omega) (by omega) (by decide)), if_neg (gix (by omega) (by omega) (by decide)), if_neg (gix (by omega) (by omega) (by decide)), z3nat (by omega) (by omega), z3nat (by omega) (by omega), z3nat (by omega) (by omega), z3nat (by omega) (by omega), z3nat (by omega) (by omega), e1, e2, e3, e4, z3s, z3s, z364 (by omega) (by omega), z364 (by omega) (by omega), if_neg n0, ew, z6d (by omega) (by omega) (by omega) (by omega), z6m, z6m, p2, z6a, l3_1, z3a])
    (fun n a hp => by
      obtain ⟨g2, f2⟩ := s2c hs2
      try dsimp only
      rw [lX7_laysOthers_60, if_neg g2, f2, if_pos ((z3le (by omega) (by omega) (by omega) (by omega)).2 (by omega))])
    C.toNat FU 0 (z6 0) (by omega) (fuel (by omega)) ⟨by omega, rfl⟩
  have e : lX7_laysOthers_60 (z3 k) fl (z6 (ozz C X k)) s w FU 0 0 = some a := e
  rw [e, p2]
theorem oth7 (h0 : 0 ≤ C) (h5 : C ≤ 5) (hs2 : s 2 = z3 C) (hx : En 3 C s X) (hy : En 8 C s Y) (hr : Rz C (-9) 9 X) (hry : Rz C (-20) 20 Y) (hi : Inj C X) (hw : E6 C w wt) (hb : Bw C wt) (k0 : 0 ≤ k) (k1 : k < C) {fl : Int32} (hf : (fl = 0 ∧ F = fun _ => 1) ∨ (fl = 1 ∧ F = fun j => Y j - Y k)) (hn : wt k ≠ 0) (lo up : Int64) : mX7_laysOthers lo s up w (z3 k) fl = some (z6 (rdB (smz (ozt C X wt F k) C.toNat 0) (wt k * ozz C X k)), z6 (rdT (smz (ozt C X wt F k) C.toNat 0) (wt k * ozz C X k))) := by
  have hF : ∀ j, 0 ≤ j → j < C → (F j).natAbs ≤ 40 := fun j j0 j1 => by
    have r3 := hry k k0 k1
    have r4 := hry j j0 j1
    rcases hf with ⟨-, rfl⟩ | ⟨-, rfl⟩
    · show (1 : Int).natAbs ≤ 40
      omega
    · show (Y j - Y k).natAbs ≤ 40
      omega
  have b1 := osm_b h0 h5 hr hi hb hF k0 k1 (n := C.toNat) (by omega)
  have b2 := wok_b h0 h5 hr hb k0 k1
  have e1 := oth5 h0 h5 hs2 hx hr k0 k1
  have e2 := oth60 (F := F) h0 h5 hs2 hx hy hr hry hi hw k0 k1 hf
  have ew := hw k k0 k1
  unfold mX7_laysOthers
  rw [e1, Option.bind_some, e2, Option.bind_some, if_neg (gix (by omega) (by omega) (by decide)), z3nat (by omega) (by omega), ew, z6m, lays7 (by omega) (by omega) (by omega) (by omega) (Int.mul_ne_zero hn (ozz_n hi k0 k1))]
  rfl
/-- the class adds term by term -/
theorem sumF (h0 : 0 ≤ C) (h5 : C ≤ 5) (hr : Rz C (-9) 9 X) (hi : Inj C X) (hb : Bw C wt) (hF : ∀ j, 0 ≤ j → j < C → (F j).natAbs ≤ 40) (k0 : 0 ≤ k) (k1 : k < C) (hn : wt k ≠ 0) (L : Nat → Int → Int64 × Int64 → Option (Int64 × Int64))
    (L1 : ∀ n j a, 0 ≤ j → j < C → j = k → L (n + 1) j a = L n (j + 1) a)
    (L2 : ∀ n j a, 0 ≤ j → j < C → j ≠ k → L (n + 1) j a = (mX1_add a.1 a.2 (z6 (wt j * F j)) (z6 (wt k * (X k - X j)))).bind fun r => L n (j + 1) r)
    (L3 : ∀ n a, L (n + 1) C a = some a) : L FU 0 (z6 (rdB 0 (wt k * ozz C X k)), z6 (rdT 0 (wt k * ozz C X k))) = some (z6 (rdB (smz (ozt C X wt F k) C.toNat 0) (wt k * ozz C X k)), z6 (rdT (smz (ozt C X wt F k) C.toNat 0) (wt k * ozz C X k))) := by
  have M0 : wt k * ozz C X k ≠ 0 := Int.mul_ne_zero hn (ozz_n hi k0 k1)
  have b2 := wok_b h0 h5 hr hb k0 k1
  obtain ⟨a, e, p1, p2⟩ := runr L (fun j a => 0 ≤ j ∧ a = (z6 (rdB (smz (ozt C X wt F k) j.toNat 0) (wt k * ozz C X k)), z6 (rdT (smz (ozt C X wt F k) j.toNat 0) (wt k * ozz C X k)))) C (fun a => a)
    (fun n j a hj hp => by
      obtain ⟨p1, p2⟩ := hp
      refine ⟨_, ?_, by omega, rfl⟩
      have b1 := osm_b h0 h5 hr hi hb hF k0 k1 (n := j.toNat + 1) (by omega)
      rw [show (j + 1).toNat = j.toNat + 1 by omega]
      rw [smz_e, show (0 : Int) + (j.toNat : Int) = j by omega] at b1 ⊢
      by_cases c : j = k
      · rw [L1 n j a p1 hj c, p2, show ozt C X wt F k j = 0 from if_pos c, Int.add_zero]
      · have et : ozt C X wt F k j = wt j * F j * (ozz C X k).tdiv (X k - X j) := if_neg c
        rw [et] at b1 ⊢
        have d := ozz_d hi (k := k) p1 hj c
        rw [L2 n j a p1 hj c, p2]
        try dsimp only
        rw [addF (q := (ozz C X k).tdiv (X k - X j)) M0 (by rw [Int.mul_assoc, Int.mul_comm (X k - X j), d]) (by omega) (by omega), Option.bind_some])
    (fun n a hp => L3 n a)
    C.toNat FU 0 _ (by omega) (fuel (by omega)) ⟨by omega, rfl⟩
  rw [p2] at e
  exact e
theorem slo3 (h0 : 0 ≤ C) (h5 : C ≤ 5) (hx : En 0 C xs X) (hy : En 0 C ys Y) (hr : Rz C (-9) 9 X) (hry : Rz C (-20) 20 Y) (hi : Inj C X) (hw : E6 C w wt) (hb : Bw C wt) (k0 : 0 ≤ k) (k1 : k < C) (hn : wt k ≠ 0) (b t : Int64) : mX0_putSlope (z3 C) xs ys w b t (z3 k) = some (z6 (rdB (smz (ozt C X wt (fun j => Y j - Y k) k) C.toNat 0) (wt k * ozz C X k)), z6 (rdT (smz (ozt C X wt (fun j => Y j - Y k) k) C.toNat 0) (wt k * ozz C X k))) := by
  have M0 : wt k * ozz C X k ≠ 0 := Int.mul_ne_zero hn (ozz_n hi k0 k1)
  have H := sumF (F := fun j => Y j - Y k) h0 h5 hr hi hb (fun j j0 j1 => by
    have r3 := hry k k0 k1
    have r4 := hry j j0 j1
    show (Y j - Y k).natAbs ≤ 40
    omega) k0 k1 hn (fun n j a => lX0_putSlope_8 (z3 k) (z3 C) xs ys w n (z3 j) a.1 a.2)
    (fun n j a j0 j1 c => by
      try dsimp only
      rw [lX0_putSlope_8]
      unfold mX3_size
      rw [Option.bind_some, if_neg (fun z => by have := (z3le (by omega) (by omega) (by omega) (by omega)).1 z; omega), if_pos (by rw [c]), l3_1, z3a])
    (fun n j a j0 j1 c => by
      have r1 := hr k k0 k1
      have r2 := hr j j0 j1
      have r3 := hry k k0 k1
      have r4 := hry j j0 j1
      have e1 := hx.z k0 k1
      have e2 := hx.z j0 j1
      have e3 := hy.z k0 k1
      have e4 := hy.z j0 j1
      have w1 := hw k k0 k1
      have w2 := hw j j0 j1
      try dsimp only
      rw [lX0_putSlope_8]
      unfold mX3_size mX0_addToRow
      rw [Option.bind_some, if_neg (fun z => by have := (z3le (by omega) (by omega) (by omega) (by omega)).1 z; omega), if_neg (fun z => c ((z3eq (by omega) (by omega) (by omega) (by omega)).1 z)), yOfz j0 (by omega), Option.bind_some, yOfz k0 (by omega), Option.bind_some, xOfz k0 (by omega), Option.bind_some, xOfz j0 (by omega), Option.bind_some, weightOf3 h5 j0 j1, Option.bind_some, weightOf3 h5 k0 k1, Option.bind_some, e1, e2, e3, e4, w1, w2, z3s, z3s, z364 (by omega) (by omega), z364 (by omega) (by omega), z6m, z6m, l3_1, z3a]
      cases mX1_add a.1 a.2 (z6 (wt j * (Y j - Y k))) (z6 (wt k * (X k - X j))) with
      | none => rfl
      | some r => rfl)
    (fun n a => by
      try dsimp only
      rw [lX0_putSlope_8]
      unfold mX3_size
      rw [Option.bind_some, if_pos ((z3le (by omega) (by omega) (by omega) (by omega)).2 (by omega))])
  have H : lX0_putSlope_8 (z3 k) (z3 C) xs ys w FU 0 (z6 (rdB 0 (wt k * ozz C X k))) (z6 (rdT 0 (wt k * ozz C X k))) = _ := H
  unfold mX0_putSlope
  rw [put0 b t M0, Option.bind_some, H]
  rfl
theorem row3 (h0 : 0 ≤ C) (h5 : C ≤ 5) (hx : En 0 C xs X) (hr : Rz C (-9) 9 X) (hi : Inj C X) (hw : E6 C w wt) (hb : Bw C wt) (k0 : 0 ≤ k) (k1 : k < C) (hn : wt k ≠ 0) (b t : Int64) : mX0_putRow (z3 C) xs w b t (z3 k) (z3 k) = some (z6 (rdB (smz (ozt C X wt (fun _ => -1) k) C.toNat 0) (wt k * ozz C X k)), z6 (rdT (smz (ozt C X wt (fun _ => -1) k) C.toNat 0) (wt k * ozz C X k))) := by
  have M0 : wt k * ozz C X k ≠ 0 := Int.mul_ne_zero hn (ozz_n hi k0 k1)
  have H := sumF (F := fun _ => -1) h0 h5 hr hi hb (fun j j0 j1 => by
    show (-1 : Int).natAbs ≤ 40
    omega) k0 k1 hn (fun n j a => lX0_putRow_23 (z3 k) (z3 C) xs w n (z3 j) a.1 a.2)
    (fun n j a j0 j1 c => by
      try dsimp only
      rw [lX0_putRow_23]
      unfold mX3_size
      rw [Option.bind_some, if_neg (fun z => by have := (z3le (by omega) (by omega) (by omega) (by omega)).1 z; omega), if_pos (by rw [c]), l3_1, z3a])
    (fun n j a j0 j1 c => by
      have r1 := hr k k0 k1
      have r2 := hr j j0 j1
      have e1 := hx.z k0 k1
      have e2 := hx.z j0 j1
      have w1 := hw k k0 k1
      have w2 := hw j j0 j1
      try dsimp only
      rw [lX0_putRow_23]
      unfold mX3_size mX0_addToRow
      rw [Option.bind_some, if_neg (fun z => by have := (z3le (by omega) (by omega) (by omega) (by omega)).1 z; omega), if_neg (fun z => c ((z3eq (by omega) (by omega) (by omega) (by omega)).1 z)), xOfz k0 (by omega), Option.bind_some, xOfz j0 (by omega), Option.bind_some, weightOf3 h5 j0 j1, Option.bind_some, weightOf3 h5 k0 k1, Option.bind_some, e1, e2, w1, w2, z3s, show (-1 : Int32) = z3 (-1) from rfl, z364 (by omega) (by omega), z364 (by omega) (by omega), z6m, z6m, l3_1, z3a]
      cases mX1_add a.1 a.2 (z6 (wt j * -1)) (z6 (wt k * (X k - X j))) with
      | none => rfl
      | some r => rfl)
    (fun n a => by
      try dsimp only
      rw [lX0_putRow_23]
      unfold mX3_size
      rw [Option.bind_some, if_pos ((z3le (by omega) (by omega) (by omega) (by omega)).2 (by omega))])
  have H : lX0_putRow_23 (z3 k) (z3 C) xs w FU 0 (z6 (rdB 0 (wt k * ozz C X k))) (z6 (rdT 0 (wt k * ozz C X k))) = _ := H
  unfold mX0_putRow
  rw [put0 b t M0, Option.bind_some, if_pos rfl, H]
  rfl
end OTH
