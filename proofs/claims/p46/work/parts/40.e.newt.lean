/-! Newton's form. -/
def prd (X : Int → Int) (x k : Int) : Int := pdz (fun i => x - X i) k.toNat 0
def nwD (X Y : Int → Int) (k : Int) : Int := smz (fun j => Y j * qqz X 0 (k + 1) j) (k + 1 - 0).toNat 0
def nwT (X Y : Int → Int) (k : Int) : Int := rdT (nwD X Y k) (spz X 0 (k + 1))
def nwB (X Y : Int → Int) (k : Int) : Int := rdB (nwD X Y k) (spz X 0 (k + 1))
theorem woz_x (X : Int → Int) (x : Int) (k : Int) : ∀ m : Nat, (m : Int) ≤ k → woz X k x m = pdz (fun i => x - X i) m 0 := by
  intro m hm
  unfold woz
  refine pdz_c m 0 (fun i i0 i1 => ?_)
  show (if i = k then 1 else x - X i) = x - X i
  rw [if_neg (by omega)]
theorem prd_w (X : Int → Int) (x : Int) {k : Int} (k0 : 0 ≤ k) : ∀ m : Nat, k < m → pdz (fun i => x - X i) m 0 = woz X k x m * (x - X k) := by
  intro m
  induction m with
  | zero => intro h; omega
  | succ m ih =>
    intro h
    rw [pdz_e, woz_s]
    by_cases w : (m : Int) = k
    · rw [if_pos w, woz_x X x k m (by omega), Int.mul_one, ← w, show (0 : Int) + (m : Int) = m by omega]
    · rw [if_neg w, ih (by omega), show (0 : Int) + (m : Int) = m by omega]
      grind
section NWT
variable {C x : Int} {X Y : Int → Int}
theorem dqz_n (hi : Inj C X) {b k : Int} (k0 : 0 ≤ k) (kb : k < b) (bC : b ≤ C) : dqz X 0 b k ≠ 0 := fun w => by
  have e := dqz_q (X := X) (f := 0) (b := b) k0 kb
  rw [w, Int.zero_mul] at e
  exact spz_n0 (f := 0) (b := b) (C := C) (by omega) (by omega) bC hi e.symm
theorem dqz_s (X : Int → Int) {b k : Int} (k0 : 0 ≤ k) (kb : k < b) : dqz X 0 (b + 1) k = dqz X 0 b k * (X k - X b) := by
  unfold dqz
  rw [show (b + 1 - 0).toNat = (b - 0).toNat + 1 by omega, pdz_e, show (0 : Int) + ((b - 0).toNat : Int) = b by omega, if_neg (by omega)]
theorem qqz_s (hi : Inj C X) {b k : Int} (k0 : 0 ≤ k) (kb : k < b) (bC : b < C) : qqz X 0 (b + 1) k * (X k - X b) = pdz (fun j => ((X b - X j).natAbs : Int)) b.toNat 0 * qqz X 0 b k := by
  have e1 := dqz_q (X := X) (f := 0) (b := b + 1) k0 (by omega)
  have e0 := dqz_q (X := X) (f := 0) (b := b) k0 kb
  have n0 := dqz_n hi k0 kb (Int.le_of_lt bC)
  rw [dqz_s X k0 kb, spz_e X (by omega), ← e0, show (b - 0).toNat = b.toNat by omega] at e1
  refine Int.eq_of_mul_eq_mul_left n0 ?_
  grind
theorem nw_step (hi : Inj C X) {b : Int} (b0 : 0 ≤ b) (bC : b < C) : plS (b + 1) X Y x = pdz (fun j => ((X b - X j).natAbs : Int)) b.toNat 0 * plS b X Y x + nwD X Y b * prd X x b := by
  unfold plS nwD prd
  rw [show (b + 1 - 0).toNat = b.toNat + 1 by omega, show (b + 1).toNat = b.toNat + 1 by omega, smz_e, smz_e, show (0 : Int) + (b.toNat : Int) = b by omega]
  have wb : woz X b x (b.toNat + 1) = pdz (fun i => x - X i) b.toNat 0 := by
    rw [woz_s, if_pos (by omega), Int.mul_one, woz_x X x b b.toNat (by omega)]
  have hs : smz (fun k => Y k * qqz X 0 (b + 1) k * woz X k x (b.toNat + 1)) b.toNat 0 = pdz (fun j => ((X b - X j).natAbs : Int)) b.toNat 0 * smz (fun k => Y k * qqz X 0 b k * woz X k x b.toNat) b.toNat 0 + pdz (fun i => x - X i) b.toNat 0 * smz (fun j => Y j * qqz X 0 (b + 1) j) b.toNat 0 := by
    rw [← smz_m, ← smz_m, ← smz_a]
    refine smz_c _ _ (fun k k0 k1 => ?_)
    have q := qqz_s hi k0 (show k < b by omega) bC
    rw [prd_w X x k0 b.toNat (by omega), woz_s, if_neg (by omega), show ((b.toNat : Nat) : Int) = b by omega]
    generalize pdz (fun j => ((X b - X j).natAbs : Int)) b.toNat 0 = g at q ⊢
    generalize woz X k x b.toNat = w
    generalize qqz X 0 (b + 1) k = q1 at q ⊢
    generalize qqz X 0 b k = q0 at q ⊢
    have : q1 * (x - X b) = g * q0 + q1 * (x - X k) := by
      rw [← q]
      grind
    calc Y k * q1 * (w * (x - X b)) = Y k * w * (q1 * (x - X b)) := by grind
      _ = Y k * w * (g * q0 + q1 * (x - X k)) := by rw [this]
      _ = g * (Y k * q0 * w) + w * (x - X k) * (Y k * q1) := by grind
  rw [hs, wb]
  grind
theorem rd_cr {a b : Int} (hb : b ≠ 0) : rdT a b * b = rdB a b * a := by
  obtain ⟨c, -, e1, e2, -⟩ := rd_c (a := a) hb
  generalize rdT a b = T at e1 e2 ⊢
  generalize rdB a b = B at e1 e2 ⊢
  rw [e1, e2]
  grind
theorem nw_sum (hi : Inj C X) {all : Int} (hd : ∀ k, 0 ≤ k → k < C → nwB X Y k ∣ all) : ∀ n : Nat, (n : Int) ≤ C → smz (fun k => nwT X Y k * all.tdiv (nwB X Y k) * prd X x k) n 0 * spz X 0 n = all * plS n X Y x := by
  intro n
  induction n with
  | zero =>
    intro _
    show 0 * _ = all * 0
    rw [Int.zero_mul, Int.mul_zero]
  | succ n ih =>
    intro hn
    have ih := ih (by omega)
    have s0 : spz X 0 ((n : Int) + 1) ≠ 0 := spz_n0 (f := 0) (b := (n : Int) + 1) (C := C) (by omega) (by omega) (by omega) hi
    have e1 := rd_cr (a := nwD X Y n) s0
    have e2 : nwB X Y n * all.tdiv (nwB X Y n) = all := Int.mul_tdiv_cancel' (hd n (by omega) (by omega))
    have e3 := nw_step (Y := Y) (x := x) hi (b := n) (by omega) (by omega)
    have e4 := spz_e X (f := 0) (b := (n : Int)) (by omega)
    rw [smz_e, show (0 : Int) + (n : Int) = n by omega, show ((n + 1 : Nat) : Int) = (n : Int) + 1 by omega, e3]
    have e1 : nwT X Y n * spz X 0 ((n : Int) + 1) = nwB X Y n * nwD X Y n := e1
    rw [show ((n : Int) - 0).toNat = n by omega] at e4
    rw [show ((n : Int)).toNat = n by omega]
    generalize pdz (fun j => ((X (n : Int) - X j).natAbs : Int)) n 0 = g at e4 ⊢
    generalize smz (fun k => nwT X Y k * all.tdiv (nwB X Y k) * prd X x k) n 0 = S at ih ⊢
    generalize spz X 0 ((n : Int) + 1) = s1 at e1 e4 ⊢
    generalize spz X 0 (n : Int) = s at ih e4 ⊢
    generalize plS (n : Int) X Y x = P at ih ⊢
    generalize nwT X Y n = t at e1 ⊢
    generalize nwB X Y n = B at e1 e2 ⊢
    generalize all.tdiv B = q at e2 ⊢
    generalize nwD X Y n = d at e1 ⊢
    generalize prd X x n = r
    calc (S + t * q * r) * s1 = S * s * g + q * r * (t * s1) := by rw [e4]; grind
      _ = all * P * g + q * r * (B * d) := by rw [ih, e1]
      _ = all * P * g + (B * q) * d * r := by grind
      _ = all * P * g + all * d * r := by rw [e2]
      _ = all * (g * P + d * r) := by grind
/-- bounds of the bottoms -/
theorem spz_s5 (c0 : 0 ≤ C) (c4 : C ≤ 4) (hr : Rz C (-5) 5 X) {k : Int} (k0 : 0 ≤ k) (k1 : k < C) : (spz X 0 (k + 1)).natAbs ≤ 1000000 := by
  have f : ∀ b, 0 ≤ b → b < C → (pdz (fun j => ((X b - X j).natAbs : Int)) (b - 0).toNat 0).natAbs ≤ 10 ^ (b - 0).toNat := fun b b0 b1 => by
    refine pdz_b (B := 10) _ _ (fun i i0 i1 => ?_)
    have r1 := hr b b0 b1
    have r2 := hr i i0 (by omega)
    omega
  have e0 : (spz X 0 (0 + 1)).natAbs ≤ 1 := by
    show (1 * 1 : Int).natAbs ≤ 1
    decide
  have st : ∀ (b : Int) (S P : Nat), 0 ≤ b → b < C → (spz X 0 b).natAbs ≤ S → 10 ^ (b - 0).toNat ≤ P → (spz X 0 (b + 1)).natAbs ≤ S * P := fun b S P b0 b1 hS hP => by
    rw [spz_e X b0]
    exact natAbs_mul_le hS (Nat.le_trans (f b b0 b1) hP)
  have e : k = 0 ∨ k = 1 ∨ k = 2 ∨ k = 3 := by omega
  rcases e with rfl | rfl | rfl | rfl
  · omega
  · have := st 1 1 10 (by omega) (by omega) e0 (by decide)
    omega
  · have a1 := st 1 1 10 (by omega) (by omega) e0 (by decide)
    have := st 2 10 100 (by omega) (by omega) a1 (by decide)
    omega
  · have a1 := st 1 1 10 (by omega) (by omega) e0 (by decide)
    have a2 := st 2 10 100 (by omega) (by omega) a1 (by decide)
    have := st 3 1000 1000 (by omega) (by omega) a2 (by decide)
    omega
theorem nwB_b (c0 : 0 ≤ C) (c4 : C ≤ 4) (hr : Rz C (-5) 5 X) (hi : Inj C X) {k : Int} (k0 : 0 ≤ k) (k1 : k < C) : 0 < nwB X Y k ∧ nwB X Y k ≤ 1000000 := by
  have s0 : spz X 0 (k + 1) ≠ 0 := spz_n0 (f := 0) (b := k + 1) (C := C) (by omega) (by omega) (by omega) hi
  have r := rd_b (a := nwD X Y k) s0
  have s := spz_s5 c0 c4 hr k0 k1
  unfold nwB
  omega
theorem nwB_0 (hi : Inj C X) (c1 : 1 ≤ C) : nwB X Y 0 = 1 := by
  have s0 : spz X 0 (0 + 1) ≠ 0 := spz_n0 (f := 0) (b := 0 + 1) (C := C) (by omega) (by omega) (by omega) hi
  have r := rd_b (a := nwD X Y 0) s0
  have e0 : (spz X 0 (0 + 1)).natAbs ≤ 1 := by
    show (1 * 1 : Int).natAbs ≤ 1
    decide
  unfold nwB
  omega
def nwA (X Y : Int → Int) (C : Int) : Int := pdz (nwB X Y) (C - 1).toNat 1
theorem nwA_d (hi : Inj C X) (c1 : 1 ≤ C) {k : Int} (k0 : 0 ≤ k) (k1 : k < C) : nwB X Y k ∣ nwA X Y C := by
  by_cases w : k = 0
  · rw [w, nwB_0 hi c1]
    exact Int.one_dvd _
  · exact pdz_dv _ _ _ (by omega) (by omega)
theorem nwA_b (c0 : 0 ≤ C) (c4 : C ≤ 4) (hr : Rz C (-5) 5 X) (hi : Inj C X) : (nwA X Y C).natAbs ≤ 1000000000000000000 := by
  have h := pdz_b (f := nwB X Y) (B := 1000000) (C - 1).toNat 1 (fun i i0 i1 => by
    have := nwB_b (Y := Y) c0 c4 hr hi (k := i) (by omega) (by omega)
    omega)
  have e : (1000000 : Nat) ^ (C - 1).toNat ≤ 1000000 ^ 3 := Nat.pow_le_pow_right (by decide) (by omega)
  have e3 : (1000000 : Nat) ^ 3 = 1000000000000000000 := by decide
  unfold nwA
  omega
theorem nw_fin (hi : Inj C X) (c1 : 1 ≤ C) : smz (fun k => nwT X Y k * (nwA X Y C).tdiv (nwB X Y k) * prd X x k) C.toNat 0 * rdB (plS C X Y x) (spz X 0 C) = nwA X Y C * rdT (plS C X Y x) (spz X 0 C) := by
  have s0 : spz X 0 C ≠ 0 := spz_n0 (f := 0) (b := C) (C := C) (by omega) (by omega) (by omega) hi
  have e := nw_sum (Y := Y) (x := x) hi (all := nwA X Y C) (fun k k0 k1 => nwA_d hi c1 k0 k1) C.toNat (by omega)
  rw [show ((C.toNat : Nat) : Int) = C by omega] at e
  have r := rd_cr (a := plS C X Y x) s0
  generalize smz (fun k => nwT X Y k * (nwA X Y C).tdiv (nwB X Y k) * prd X x k) C.toNat 0 = S at e ⊢
  generalize rdB (plS C X Y x) (spz X 0 C) = B at r ⊢
  generalize rdT (plS C X Y x) (spz X 0 C) = t at r ⊢
  generalize plS C X Y x = P at e r
  generalize spz X 0 C = s at e r s0
  generalize nwA X Y C = al at e ⊢
  refine Int.eq_of_mul_eq_mul_right s0 ?_
  calc S * B * s = S * s * B := by grind
    _ = al * P * B := by rw [e]
    _ = al * (B * P) := by grind
    _ = al * (t * s) := by rw [r]
    _ = al * t * s := by grind
end NWT
section NWM
variable {a : AZ} {h : Int} {σ : S6}
theorem a_div {k w : Int} (hJ : JA a h σ) (k0 : 0 ≤ k) (k1 : k < zC a) (w0 : 0 ≤ w ∧ w ≤ 1) (u v : Int64) : mX6_divided u v (z3 (zC a)) (a6_present_nodes_xs σ) (a6_present_nodes_ys σ) 0 (z3 k) (z3 w) = some (0, (if w = 0 then z6 (nwT (zX a) (zY a) k) else z6 (nwB (zX a) (zY a) k)), z6 (nwB (zX a) (zY a) k), z6 (nwT (zX a) (zY a) k)) := by
  obtain ⟨hO, ⟨hc, hd, hm, hw, hx, hy⟩, ⟨hv, ho, hwt⟩, hh, hf⟩ := hJ
  obtain ⟨h0, h5, m0, m1, d0, d1, hr, hry, hrw, hi⟩ := hO
  have D := div3 (f := 0) (b := k + 1) (by omega) (by omega) (by omega) h5 hx hy hr hry hi u v
  rw [show k + 1 - 1 = k by omega] at D
  have D : mX3_putDivided (a6_present_nodes_xs σ) (a6_present_nodes_ys σ) u v (z3 0) (z3 k) = some (z6 (nwB (zX a) (zY a) k), z6 (nwT (zX a) (zY a) k)) := D
  unfold mX6_divided
  rw [l3_0, nt_y h0 h5 (by omega) (by omega) (by omega), Option.bind_some, if_pos rfl, nt_y h0 h5 ⟨k0, k1⟩ (by omega) (by omega), Option.bind_some, if_pos rfl, np_y w0 (by omega) (by omega), Option.bind_some, if_pos rfl, nb_y ⟨Int.le_refl 0, k0⟩ (by omega) (by omega) (by omega) (by omega) (by omega) (by omega), Option.bind_some, if_pos rfl, D, Option.bind_some, part3 _ _ w0]
  rfl
theorem a_newt {xs : Nat → Int32} {x : Int} (hp : Pl9 a) (c4 : zC a ≤ 4) (hr5 : Rz (zC a) (-5) 5 (zX a)) (hx5 : En 0 (zC a) xs (zX a)) (hJ : JA a h σ) (x0 : -12 ≤ x) (x1 : x ≤ 12) : ∃ r σ', sL_isByNewton (z3 (zC a)) xs σ (z3 x) = some (r, σ') ∧ r ≠ 0 ∧ JA a h σ' := by
  have hJ9 := hJ
  have hc := hJ.2.1.1
  obtain ⟨h0, h5, m0, m1, d0, d1, hr, hry, hrw, hi⟩ := hJ.1
  have c1 := hp.2.2
  have bA := nwA_b (Y := zY a) h0 c4 hr5 hi
  have L5 : ∃ b t, lL_isByNewton_5 (z3 (zC a)) (z3 (zC a)) (a6_present_nodes_xs σ) (a6_present_nodes_ys σ) FU 1 1 (a6_answer_bottom σ) (a6_answer_top σ) = some (z6 (nwA (zX a) (zY a) (zC a)), b, t) := by
    obtain ⟨q, e, q1, q2⟩ := runr (fun n j (q : Int64 × Int64 × Int64) => lL_isByNewton_5 (z3 (zC a)) (z3 (zC a)) (a6_present_nodes_xs σ) (a6_present_nodes_ys σ) n q.1 (z3 j) q.2.1 q.2.2) (fun j q => 1 ≤ j ∧ q.1 = z6 (pdz (nwB (zX a) (zY a)) (j - 1).toNat 1)) (zC a) (fun q => (q.1, q.2.1, q.2.2))
      (fun n j q hj hp => by
        obtain ⟨p1, p2⟩ := hp
        refine ⟨(z6 (pdz (nwB (zX a) (zY a)) (j + 1 - 1).toNat 1), z6 (nwB (zX a) (zY a) j), z6 (nwT (zX a) (zY a) j)), ?_, by omega, rfl⟩
        have D := a_div (k := j) (w := 1) hJ (by omega) hj (by omega) q.2.1 q.2.2
        rw [if_neg (by decide)] at D
        try dsimp only
        rw [lL_isByNewton_5, if_neg (fun w => by have := (z3le (by omega) (by omega) (by omega) (by omega)).1 w; omega), l3_1, D, Option.bind_some, if_pos rfl, p2, z6m, z3a, show (j + 1 - 1).toNat = (j - 1).toNat + 1 by omega, pdz_e, show (1 : Int) + ((j - 1).toNat : Int) = j by omega])
      (fun n q hp => by
        try dsimp only
        rw [lL_isByNewton_5, if_pos ((z3le (by omega) (by omega) (by omega) (by omega)).2 (Int.le_refl _))])
      (zC a - 1).toNat FU 1 (1, a6_answer_bottom σ, a6_answer_top σ) (by omega) (fuel (by omega)) ⟨by omega, rfl⟩
    have e : lL_isByNewton_5 (z3 (zC a)) (z3 (zC a)) (a6_present_nodes_xs σ) (a6_present_nodes_ys σ) FU 1 1 (a6_answer_bottom σ) (a6_answer_top σ) = some (q.1, q.2.1, q.2.2) := e
    exact ⟨q.2.1, q.2.2, by rw [e, q2]; rfl⟩
  obtain ⟨b1, t1, L5⟩ := L5
  have L40 : ∃ b t, lL_isByNewton_40 (z3 x) (z6 (nwA (zX a) (zY a) (zC a))) (z3 (zC a)) xs (z3 (zC a)) (a6_present_nodes_xs σ) (a6_present_nodes_ys σ) FU 0 1 0 b1 t1 = some (z6 (smz (fun k => nwT (zX a) (zY a) k * (nwA (zX a) (zY a) (zC a)).tdiv (nwB (zX a) (zY a) k) * prd (zX a) x k) (zC a).toNat 0), b, t) := by
    obtain ⟨q, e, q1, q2, q3⟩ := runr (fun n j (q : Int64 × Int64 × Int64 × Int64) => lL_isByNewton_40 (z3 x) (z6 (nwA (zX a) (zY a) (zC a))) (z3 (zC a)) xs (z3 (zC a)) (a6_present_nodes_xs σ) (a6_present_nodes_ys σ) n q.1 q.2.1 (z3 j) q.2.2.1 q.2.2.2) (fun j q => 0 ≤ j ∧ q.1 = z6 (smz (fun k => nwT (zX a) (zY a) k * (nwA (zX a) (zY a) (zC a)).tdiv (nwB (zX a) (zY a) k) * prd (zX a) x k) j.toNat 0) ∧ q.2.1 = z6 (prd (zX a) x j)) (zC a) (fun q => (q.1, q.2.2.1, q.2.2.2))
      (fun n j q hj hp => by
        obtain ⟨p1, p2, p3⟩ := hp
        refine ⟨(z6 (smz (fun k => nwT (zX a) (zY a) k * (nwA (zX a) (zY a) (zC a)).tdiv (nwB (zX a) (zY a) k) * prd (zX a) x k) (j + 1).toNat 0), z6 (prd (zX a) x (j + 1)), z6 (nwB (zX a) (zY a) j), z6 (nwT (zX a) (zY a) j)), ?_, by omega, rfl, rfl⟩
        have D0 := a_div (k := j) (w := 0) hJ (by omega) hj (by omega) q.2.2.1 q.2.2.2
        have D1 := a_div (k := j) (w := 1) hJ (by omega) hj (by omega) (z6 (nwB (zX a) (zY a) j)) (z6 (nwT (zX a) (zY a) j))
        rw [if_pos rfl] at D0
        rw [if_neg (by decide)] at D1
        have bB := nwB_b (Y := zY a) h0 c4 hr5 hi p1 hj
        have nb : ¬ z6 (nwB (zX a) (zY a) j) = 0 := fun w => by
          have := (z6eq (b := 0) (by omega) (by omega) (by omega) (by omega)).1 w
          omega
        have r5 := hr5 j p1 hj
        try dsimp only
        rw [lL_isByNewton_40, if_neg (fun w => by have := (z3le (by omega) (by omega) (by omega) (by omega)).1 w; omega), show (0 : Int32) = z3 0 from rfl, ← l3_0, show (mX6_divided q.2.2.1 q.2.2.2 (z3 (zC a)) (a6_present_nodes_xs σ) (a6_present_nodes_ys σ) 0 (z3 j) 0) = _ from D0, Option.bind_some, if_pos rfl, show (mX6_divided (z6 (nwB (zX a) (zY a) j)) (z6 (nwT (zX a) (zY a) j)) (z3 (zC a)) (a6_present_nodes_xs σ) (a6_present_nodes_ys σ) 0 (z3 j) 1) = _ from D1, Option.bind_some, if_pos rfl, if_neg nb, if_neg (gix p1 (by omega) (by decide)), z3nat (by omega) (by omega), hx5.z p1 hj, z3s, z364 (by omega) (by omega), z6d (by omega) (by omega) (by omega) (by omega), p2, p3, z6m, z6m, z6m, z6a, l3_1, z3a, smz_j _ p1]
        have ep : prd (zX a) x (j + 1) = prd (zX a) x j * (x - zX a j) := by
          unfold prd
          rw [show (j + 1).toNat = j.toNat + 1 by omega, pdz_e, show (0 : Int) + (j.toNat : Int) = j by omega]
        rw [ep])
      (fun n q hp => by
        try dsimp only
        rw [lL_isByNewton_40, if_pos ((z3le (by omega) (by omega) (by omega) (by omega)).2 (Int.le_refl _))])
      (zC a).toNat FU 0 (0, 1, b1, t1) (by omega) (fuel (by omega)) ⟨by omega, rfl, rfl⟩
    have e : lL_isByNewton_40 (z3 x) (z6 (nwA (zX a) (zY a) (zC a))) (z3 (zC a)) xs (z3 (zC a)) (a6_present_nodes_xs σ) (a6_present_nodes_ys σ) FU 0 1 0 b1 t1 = some (q.1, q.2.2.1, q.2.2.2) := e
    exact ⟨q.2.2.1, q.2.2.2, by rw [e, q2]⟩
  obtain ⟨b2, t2, L40⟩ := L40
  obtain ⟨e1, e2, e3⟩ := pl_v hp x
  have NF := nw_fin (X := zX a) (Y := zY a) (x := x) hi c1
  rw [← e2, ← e3] at NF
  obtain ⟨⟨u2, v2, den2, tc2, td2, tm2, tw2, tx2, ty2, num2, or2, pr2, so2, wt2⟩, P1⟩ := a_plm (k := 1) b2 t2 (a6_trial_denominator σ) (a6_trial_nodes_count σ) (a6_trial_nodes_degree σ) (a6_trial_nodes_mode σ) (a6_trial_nodes_ws σ) (a6_trial_nodes_xs σ) (a6_trial_nodes_ys σ) (a6_trial_numerator σ) (a6_trial_order σ) (a6_trial_product σ) (a6_trial_sorted σ) (a6_trial_weights σ) hp hJ x0 x1 (by omega)
  obtain ⟨⟨u3, v3, den3, tc3, td3, tm3, tw3, tx3, ty3, num3, or3, pr3, so3, wt3⟩, P0⟩ := a_plm (k := 0) u2 v2 den2 tc2 td2 tm2 tw2 tx2 ty2 num2 or2 pr2 so2 wt2 hp hJ x0 x1 (by omega)
  rw [if_neg (by decide)] at P1
  rw [if_pos rfl] at P0
  have P1 : mX6_plainValue b2 t2 (a6_present_nodes_count σ) (a6_present_nodes_degree σ) (a6_present_nodes_mode σ) (a6_present_nodes_ws σ) (a6_present_nodes_xs σ) (a6_present_nodes_ys σ) (a6_trial_denominator σ) (a6_trial_nodes_count σ) (a6_trial_nodes_degree σ) (a6_trial_nodes_mode σ) (a6_trial_nodes_ws σ) (a6_trial_nodes_xs σ) (a6_trial_nodes_ys σ) (a6_trial_numerator σ) (a6_trial_order σ) (a6_trial_product σ) (a6_trial_sorted σ) (a6_trial_weights σ) (z3 x) 1 = _ := P1
  have P0 : mX6_plainValue u2 v2 (a6_present_nodes_count σ) (a6_present_nodes_degree σ) (a6_present_nodes_mode σ) (a6_present_nodes_ws σ) (a6_present_nodes_xs σ) (a6_present_nodes_ys σ) den2 tc2 td2 tm2 tw2 tx2 ty2 num2 or2 pr2 so2 wt2 (z3 x) 0 = _ := P0
  rw [hc] at P1 P0
  have m6 : mL_isByNewton (z3 (zC a)) xs (a6_answer_bottom σ) (a6_answer_top σ) (a6_present_nodes_count σ) (a6_present_nodes_degree σ) (a6_present_nodes_mode σ) (a6_present_nodes_ws σ) (a6_present_nodes_xs σ) (a6_present_nodes_ys σ) (a6_trial_denominator σ) (a6_trial_nodes_count σ) (a6_trial_nodes_degree σ) (a6_trial_nodes_mode σ) (a6_trial_nodes_ws σ) (a6_trial_nodes_xs σ) (a6_trial_nodes_ys σ) (a6_trial_numerator σ) (a6_trial_order σ) (a6_trial_product σ) (a6_trial_sorted σ) (a6_trial_weights σ) (z3 x) = some (1, u3, v3, den3, tc3, td3, tm3, tw3, tx3, ty3, num3, or3, pr3, so3, wt3) := by
    unfold mL_isByNewton
    rw [hc, L5, Option.bind_some, L40, Option.bind_some, P1, Option.bind_some, if_pos rfl, P0, Option.bind_some, if_pos rfl, if_pos (by rw [z6m, z6m, NF])]
  refine ⟨1, ?_⟩
  apply Exists.intro
  refine ⟨?_, by decide, ?_⟩
  · unfold sL_isByNewton
    rw [m6]
    rfl
  · exact hJ9
end NWM
