/-! The weights, second half: raw weights, their divisor, the weights. -/
theorem z3h {j : Int} (h1 : 0 ≤ j) (h2 : j < 2147483648) : z3 j / z3 2 = z3 (j / 2) := by
  rw [z3d (by omega) h2 (by omega) (by omega), Int.tdiv_eq_ediv_of_nonneg h1]
theorem itz_e {α : Type} (f : Int → α → α) : ∀ (m : Nat) (j : Int) (a : α), itz f (m + 1) j a = f (j + m) (itz f m j a) := by
  intro m
  induction m with
  | zero =>
    intro j a
    show f j a = f (j + 0) a
    rw [show j + 0 = j by omega]
  | succ m ih =>
    intro j a
    show itz f (m + 1) (j + 1) (f j a) = _
    rw [ih, show j + 1 + (m : Int) = j + (m + 1 : Nat) by omega]
    rfl
theorem updL_s (f : Nat → Int64) (k : Nat) (v : Int64) : vp_updL f k v k = v := if_pos rfl
theorem updL_n {f : Nat → Int64} {k j : Nat} {v : Int64} (h : j ≠ k) : vp_updL f k v j = f j := if_neg h
theorem upd_s (f : Nat → Int32) (k : Nat) (v : Int32) : upd f k v k = v := if_pos rfl
theorem upd_n {f : Nat → Int32} {k j : Nat} {v : Int32} (h : j ≠ k) : upd f k v j = f j := if_neg h
def E6 (C : Int) (f : Nat → Int64) (w : Int → Int) : Prop := ∀ k, 0 ≤ k → k < C → f k.toNat = z6 (w k)
/-- the divisor of all raw weights -/
noncomputable def gwz (C m d : Int) (X W : Int → Int) (j : Int) : Int := itz (fun k g => (Int.gcd g (rwz C m d X W k) : Int)) j.toNat 0 0
noncomputable def wtz (C m d : Int) (X W : Int → Int) (k : Int) : Int := if gwz C m d X W C = 0 then rwz C m d X W k else (rwz C m d X W k).tdiv (gwz C m d X W C)
theorem gwz_s {C m d : Int} {X W : Int → Int} {j : Int} (h : 0 ≤ j) : gwz C m d X W (j + 1) = Int.gcd (gwz C m d X W j) (rwz C m d X W j) := by
  unfold gwz
  rw [show (j + 1).toNat = j.toNat + 1 by omega, itz_e, show (0 : Int) + (j.toNat : Int) = j by omega]
section WT2
variable {C m d : Int} {X W : Int → Int} {xs ws s o so : Nat → Int32}
theorem wiz_b (h0 : 0 ≤ C) (h5 : C ≤ 5) (hr : Rz C (-9) 9 X) (hi : Inj C X) {k : Int} (k0 : 0 ≤ k) (k1 : k < C) {w i : Int} (i0 : 0 ≤ i) (i1 : i + w < C) : (wiz C X w k i).natAbs ≤ 3570467226624 := by
  have a := spz_b h0 h5 hr
  have b := Int.natAbs_tdiv_le_natAbs (spz X 0 C) (dsz C X k i (i + w))
  unfold wiz
  split <;> omega
theorem blz_b (h0 : 0 ≤ C) (h5 : C ≤ 5) (hr : Rz C (-9) 9 X) (hi : Inj C X) {k : Int} (k0 : 0 ≤ k) (k1 : k < C) {w : Int} (w0 : 0 ≤ w) (w1 : w < C) : (blz C X w k).natAbs ≤ 17852336133120 := by
  have q1 := plz_ge C X k
  have q2 := plz_r (X := X) k0 k1
  unfold blz
  have := smz_b (f := wiz C X w k) (B := 3570467226624) (min (plz C X k) (C - 1 - w) + 1 - max 0 (plz C X k - w)).toNat (max 0 (plz C X k - w)) (fun i h1 h2 => wiz_b h0 h5 hr hi k0 k1 (by omega) (by omega))
  refine Nat.le_trans this ?_
  have : (min (plz C X k) (C - 1 - w) + 1 - max 0 (plz C X k - w)).toNat ≤ 5 := by omega
  omega
theorem rwz_b (h0 : 0 ≤ C) (h5 : C ≤ 5) (hr : Rz C (-9) 9 X) (hi : Inj C X) (hw : Rz C (-9) 9 W) (hd : 0 ≤ d) {k : Int} (k0 : 0 ≤ k) (k1 : k < C) : (rwz C m d X W k).natAbs ≤ 17852336133120 := by
  unfold rwz
  have := hw k k0 k1
  split
  · omega
  · exact blz_b h0 h5 hr hi k0 k1 (by split <;> omega) (by split <;> omega)
theorem scaled3_in (h0 : 0 ≤ C) (h5 : C ≤ 5) (hx : En 0 C xs X) (hr : Rz C (-9) 9 X) (hi : Inj C X) (hso : En 0 C so (fun p => X (ivz C X p))) {k : Int} (k0 : 0 ≤ k) (k1 : k < C) {lo hh w : Int} (l0 : 0 ≤ lo) (w0 : 0 ≤ w) (l2 : lo ≤ hh + 1) (l1 : hh + w < C) :
    lX0_scaledWeight_76 (z3 k) (z6 (spz X 0 C)) (z3 w) (z3 (plz C X k)) (z3 hh) xs so FU (z6 0) (z3 lo) = some (z6 (smz (wiz C X w k) (hh + 1 - lo).toNat lo)) := by
  have sb := spz_b h0 h5 hr
  have H := runz (fun n j (a : Int) => lX0_scaledWeight_76 (z3 k) (z6 (spz X 0 C)) (z3 w) (z3 (plz C X k)) (z3 hh) xs so n (z6 a) (z3 j)) (fun p a => a + wiz C X w k p) (fun j a => lo ≤ j) (hh + 1) z6
    (fun n j a hj hp => by
      have hp : lo ≤ j := hp
      refine ⟨?_, by omega⟩
      have e := dist3 h5 hx hr hi hso k0 k1 (lo := j) (w := w) (by omega) w0 (by omega)
      obtain ⟨db, dn⟩ := dsz_b h5 hr hi k0 k1 (lo := j) (h := j + w) (by omega) (by omega)
      simp (disch := omega) only [lX0_scaledWeight_76, l3_0, l3_1, l3_2, l3_3, l3_4, l3_5, l3_8, l3_9, l3_10, l3_12, l3_13, l3_14, l3_18, l3_19, l3_20, l3_24, l3_31, l3_32, l3_33, l3_45, l3_47, l3_48, l3_57, l3_58, l3_59, l3_63, l3_94, l3_97, l3_120, l3_122, l3_180, l3_200, l3_255, l3_320, l3_400, z3a, z3s, z3m, z3n, z3le, z3lt, z3eq, z3nat, z364, l6_0, l6_1, l6_2, l6_10, l6_48, z6a, z6s, z6m, z6n, if_neg, e, Option.bind_some, z3h, z6eq, z6d, Int.neg_tdiv]
      unfold wiz
      by_cases q : j % 2 = 0
      · rw [if_pos (by omega), if_pos q]
      · rw [if_neg (by omega), if_neg q])
    (fun n a hp => by
      simp (disch := omega) only [lX0_scaledWeight_76, l3_0, l3_1, l3_2, l3_3, l3_4, l3_5, l3_8, l3_9, l3_10, l3_12, l3_13, l3_14, l3_18, l3_19, l3_20, l3_24, l3_31, l3_32, l3_33, l3_45, l3_47, l3_48, l3_57, l3_58, l3_59, l3_63, l3_94, l3_97, l3_120, l3_122, l3_180, l3_200, l3_255, l3_320, l3_400, z3a, z3s, z3m, z3n, z3le, z3lt, z3eq, z3nat, z364, if_pos])
    (hh + 1 - lo).toNat FU lo 0 (by omega) (fuel (by omega)) (by omega)
  rw [itz_s, Int.zero_add] at H
  exact H.1
theorem scaled3 (h0 : 0 ≤ C) (h5 : C ≤ 5) (hx : En 0 C xs X) (hr : Rz C (-9) 9 X) (hi : Inj C X) (hso : En 0 C so (fun p => X (ivz C X p))) {k : Int} (k0 : 0 ≤ k) (k1 : k < C) (m0 : 0 ≤ m) (m1 : m ≤ 2) (d0 : 0 ≤ d) (d1 : d ≤ 4) :
    mX0_scaledWeight (z3 C) (z3 d) (z3 m) xs so (z3 k) (z6 (spz X 0 C)) = some (z6 (blz C X (if m = 0 then C - 1 else min d (C - 1)) k)) := by
  have q1 := plz_ge C X k
  have q2 := plz_r (X := X) k0 k1
  unfold mX0_scaledWeight
  simp (disch := omega) only [mX3_size, l3_0, l3_1, l3_2, l3_3, l3_4, l3_5, l3_8, l3_9, l3_10, l3_12, l3_13, l3_14, l3_18, l3_19, l3_20, l3_24, l3_31, l3_32, l3_33, l3_45, l3_47, l3_48, l3_57, l3_58, l3_59, l3_63, l3_94, l3_97, l3_120, l3_122, l3_180, l3_200, l3_255, l3_320, l3_400, z3a, z3s, z3m, z3n, z3le, z3lt, z3eq, z3nat, z364, l6_0, l6_1, l6_2, l6_10, l6_48, z6a, z6s, z6m, z6n, Option.bind_some, place3 h0 h5 hx hr, zmin3, zmax3]
  by_cases w : m = 0
  · rw [if_pos w, if_pos w, scaled3_in h0 h5 hx hr hi hso k0 k1 (by omega) (by omega) (by omega) (by omega)]
    rfl
  · rw [if_neg w, if_neg w, scaled3_in h0 h5 hx hr hi hso k0 k1 (by omega) (by omega) (by omega) (by omega)]
    rfl
end WT2
