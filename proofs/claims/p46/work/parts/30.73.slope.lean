/-! The sum over the other points: slope and row. -/
theorem pdz_dv {f : Int → Int} : ∀ (m : Nat) (j i : Int), j ≤ i → i < j + m → f i ∣ pdz f m j := by
  intro m
  induction m with
  | zero => intro j i h1 h2; omega
  | succ m ih =>
    intro j i h1 h2
    show f i ∣ f j * pdz f m (j + 1)
    by_cases w : i = j
    · rw [w]
      exact Int.dvd_mul_right _ _
    · exact Int.dvd_mul_of_dvd_right (ih (j + 1) i (by omega) (by omega))
/-- the product of all differences to a point -/
def ozz (C : Int) (X : Int → Int) (k : Int) : Int := pdz (fun j => if j = k then 1 else X k - X j) C.toNat 0
/-- a term of the sum -/
def ozt (C : Int) (X wt F : Int → Int) (k j : Int) : Int := if j = k then 0 else wt j * F j * (ozz C X k).tdiv (X k - X j)
section OTH
variable {C k : Int} {X Y wt F : Int → Int} {xs ys s : Nat → Int32} {w : Nat → Int64}
theorem ozz_n (hi : Inj C X) (k0 : 0 ≤ k) (k1 : k < C) : ozz C X k ≠ 0 := by
  refine pdz_n _ _ (fun i i0 i1 => ?_)
  by_cases e : i = k
  · rw [if_pos e]
    omega
  · rw [if_neg e]
    intro q
    exact e (hi i k i0 (by omega) k0 k1 (by omega))
theorem ozz_b (h0 : 0 ≤ C) (h5 : C ≤ 5) (hr : Rz C (-9) 9 X) (k0 : 0 ≤ k) (k1 : k < C) : (ozz C X k).natAbs ≤ 1889568 := by
  have a : (ozz C X k).natAbs ≤ 18 ^ C.toNat := pdz_b _ _ (fun i i0 i1 => by
    have r1 := hr k k0 k1
    have r2 := hr i i0 (by omega)
    by_cases e : i = k
    · rw [if_pos e]
      omega
    · rw [if_neg e]
      omega)
  have b : 18 ^ C.toNat ≤ 18 ^ 5 := Nat.pow_le_pow_right (by omega) (by omega)
  have c : (18 : Nat) ^ 5 = 1889568 := by decide
  omega
theorem ozz_d (hi : Inj C X) {j : Int} (j0 : 0 ≤ j) (j1 : j < C) (hj : j ≠ k) : (ozz C X k).tdiv (X k - X j) * (X k - X j) = ozz C X k := by
  have h := pdz_dv (f := fun j => if j = k then 1 else X k - X j) C.toNat 0 j j0 (by omega)
  rw [if_neg hj] at h
  exact Int.tdiv_mul_cancel h
theorem ozt_b (h0 : 0 ≤ C) (h5 : C ≤ 5) (hr : Rz C (-9) 9 X) (hi : Inj C X) (hb : Bw C wt) (hF : ∀ j, 0 ≤ j → j < C → (F j).natAbs ≤ 40) (k0 : 0 ≤ k) (k1 : k < C) {j : Int} (j0 : 0 ≤ j) (j1 : j < C) : (ozt C X wt F k j).natAbs ≤ 482013075594240000 := by
  unfold ozt
  by_cases e : j = k
  · rw [if_pos e]
    omega
  · rw [if_neg e]
    have d := ozz_d hi (k := k) j0 j1 e
    have q := ozz_b h0 h5 hr k0 k1
    have n0 : X k - X j ≠ 0 := fun z => e (hi j k j0 j1 k0 k1 (by omega))
    have b1 : ((ozz C X k).tdiv (X k - X j)).natAbs ≤ 1889568 := by
      have := nab_le (a := (ozz C X k).tdiv (X k - X j)) n0
      rw [d] at this
      omega
    have := natAbs_mul_le (natAbs_mul_le (hb j j0 j1) (hF j j0 j1)) b1
    omega
theorem osm_b (h0 : 0 ≤ C) (h5 : C ≤ 5) (hr : Rz C (-9) 9 X) (hi : Inj C X) (hb : Bw C wt) (hF : ∀ j, 0 ≤ j → j < C → (F j).natAbs ≤ 40) (k0 : 0 ≤ k) (k1 : k < C) {n : Nat} (hn : (n : Int) ≤ C) : (smz (ozt C X wt F k) n 0).natAbs ≤ 2410065377971200000 := by
  have a := smz_b (f := ozt C X wt F k) (B := 482013075594240000) n 0 (fun i i0 i1 => ozt_b h0 h5 hr hi hb hF k0 k1 i0 (by omega))
  have : n * 482013075594240000 ≤ 5 * 482013075594240000 := Nat.mul_le_mul_right _ (by omega)
  omega
theorem wok_b (h0 : 0 ≤ C) (h5 : C ≤ 5) (hr : Rz C (-9) 9 X) (hb : Bw C wt) (k0 : 0 ≤ k) (k1 : k < C) : (wt k * ozz C X k).natAbs ≤ 12050326889856000 := natAbs_mul_le (hb k k0 k1) (ozz_b h0 h5 hr k0 k1)
/-- the class adds term by term -/
theorem sumF (h0 : 0 ≤ C) (h5 : C ≤ 5) (hr : Rz C (-9) 9 X) (hi : Inj C X) (hb : Bw C wt) (hF : ∀ j, 0 ≤ j → j < C → (F j).natAbs ≤ 40) (k0 : 0 ≤ k) (k1 : k < C) (hn : wt k ≠ 0) (L : Nat → Int → Int64 × Int64 → Option (Int64 × Int64))
    (L1 : ∀ n j a, 0 ≤ j → j < C → j = k → L (n + 1) j a = L n (j + 1) a)
    (L2 : ∀ n j a, 0 ≤ j → j < C → j ≠ k → L (n + 1) j a = (mX1_add a.1 a.2 (z6 (wt j * F j)) (z6 (wt k * (X k - X j)))).bind fun r => L n (j + 1) r)
    (L3 : ∀ n a, L (n + 1) C a = some a) : L FU 0 (z6 (rdB 0 (wt k * ozz C X k)), z6 (rdT 0 (wt k * ozz C X k))) = some (z6 (rdB (smz (ozt C X wt F k) C.toNat 0) (wt k * ozz C X k)), z6 (rdT (smz (ozt C X wt F k) C.toNat 0) (wt k * ozz C X k))) := by
  have M0 : wt k * ozz C X k ≠ 0 := Int.mul_ne_zero hn (ozz_n hi k0 k1)
  have b2 := wok_b h0 h5 hr hb k0 k1
  obtain ⟨a, e, p1, p2⟩ := runr L (fun j a => 0 ≤ j ∧ a = (z6 (rdB (smz (ozt C X wt F k) j.toNat 0) (wt k * ozz C X k)), z6 (rdT (smz (ozt C X wt F k) j.toNat 0) (wt k * ozz C X k)))) C (fun a => a)
    (fun n j a hj hp => by
      obtain ⟨p1, p2⟩ := hp
      refine ⟨_, ?_, by omega, rfl⟩
      have b1 := osm_b h0 h5 hr hi hb hF k0 k1 (n := j.toNat + 1) (by omega)
      rw [show (j + 1).toNat = j.toNat + 1 by omega]
      rw [smz_e, show (0 : Int) + (j.toNat : Int) = j by omega] at b1 ⊢
      by_cases c : j = k
      · rw [L1 n j a p1 hj c, p2, show ozt C X wt F k j = 0 from if_pos c, Int.add_zero]
      · have et : ozt C X wt F k j = wt j * F j * (ozz C X k).tdiv (X k - X j) := if_neg c
        rw [et] at b1 ⊢
        have d := ozz_d hi (k := k) p1 hj c
        rw [L2 n j a p1 hj c, p2]
        try dsimp only
        rw [addF (q := (ozz C X k).tdiv (X k - X j)) M0 (by rw [Int.mul_assoc, Int.mul_comm (X k - X j), d]) (by omega) (by omega), Option.bind_some])
    (fun n a hp => L3 n a)
    C.toNat FU 0 _ (by omega) (fuel (by omega)) ⟨by omega, rfl⟩
  rw [p2] at e
  exact e
end OTH
