/-! Step 27, plainValue. -/
section PLN
variable {C k x d : Int} {X Y W : Int → Int} {s : Nat → Int32}
theorem qqz_b2 (h0 : 0 ≤ C) (h5 : C ≤ 5) (hr : Rz C (-9) 9 X) (hi : Inj C X) (k0 : 0 ≤ k) (k1 : k < C) : (qqz X 0 C k).natAbs ≤ 6377292000 := by
  have h := blz_b2 (w := C - 1) h0 h5 hr hi k0 k1 (by omega) (by omega)
  have e := raw_0 hi 0 (fun _ => 0) k0 k1
  have e2 : rwz C 0 0 X (fun _ => 0) k = blz C X (C - 1) k := by
    unfold rwz
    rw [if_neg (by decide), if_pos rfl]
  rw [← e, e2]
  exact h
theorem pl77 (h0 : 0 ≤ C) (h5 : C ≤ 5) (hs2 : s 2 = z3 C) (hx : En 3 C s X) (hr : Rz C (-9) 9 X) (hi : Inj C X) (k0 : 0 ≤ k) (k1 : k < C) : lX7_plainValue_77 (z3 k) s FU (z6 (spz X 0 C)) (z3 0) = some (z6 (qqz X 0 C k)) := by
  have qb := qqz_b (X := X) (f := 0) (b := C) (C := C) (k := k) (by omega) k0 k1 (by omega) h5 hr hi
  have bd : ∀ (m : Nat) (j : Int), 0 ≤ j → j + m = C → (pdz (fun m => if m = k then 1 else X k - X m) m j * qqz X 0 C k).natAbs ≤ 1889568 * 3570467226624 := fun m j j0 j1 => by
    refine natAbs_mul_le ?_ qb
    have a : (pdz (fun m => if m = k then 1 else X k - X m) m j).natAbs ≤ 18 ^ m := pdz_b _ _ (fun i i0 i1 => by
      have r1 := hr k (by omega) (by omega)
      have r2 := hr i (by omega) (by omega)
      by_cases e : i = k
      · rw [if_pos e]
        omega
      · rw [if_neg e]
        omega)
    have b : 18 ^ m ≤ 18 ^ 5 := Nat.pow_le_pow_right (by omega) (by omega)
    have c : (18 : Nat) ^ 5 = 1889568 := by decide
    omega
  obtain ⟨a, e, p1, p2⟩ := runr (fun n j (a : Int64) => lX7_plainValue_77 (z3 k) s n a (z3 j)) (fun j a => 0 ≤ j ∧ a = z6 (pdz (fun m => if m = k then 1 else X k - X m) (C - j).toNat j * qqz X 0 C k)) C (fun a => a)
    (fun n j a hj hp => by
      obtain ⟨p1, p2⟩ := hp
      obtain ⟨g2, f2⟩ := s2c hs2
      have r1 := hr k (by omega) (by omega)
      have r2 := hr j (by omega) (by omega)
      have e1 := hx k (by omega) (by omega)
      have e2 := hx j (by omega) (by omega)
      have bb := bd (C - j).toNat j p1 (by omega)
      refine ⟨z6 (pdz (fun m => if m = k then 1 else X k - X m) (C - (j + 1)).toNat (j + 1) * qqz X 0 C k), ?_, by omega, rfl⟩
      have es : pdz (fun m => if m = k then 1 else X k - X m) (C - j).toNat j = (if j = k then 1 else X k - X j) * pdz (fun m => if m = k then 1 else X k - X m) (C - (j + 1)).toNat (j + 1) := by
        rw [show (C - j).toNat = (C - (j + 1)).toNat + 1 by omega]
        rfl
      rw [es] at p2 bb
      generalize pdz (fun m => if m = k then 1 else X k - X m) (C - (j + 1)).toNat (j + 1) = Q at *
      by_cases c : j = k
      · rw [if_pos c, Int.one_mul] at p2 bb
        rw [lX7_plainValue_77, if_neg g2, f2, if_neg (fun z => by have := (z3le (by omega) (by omega) (by omega) (by omega)).1 z; omega), if_pos (by rw [c]), p2, l6_1, z6d (by omega) (by omega) (by omega) (by omega), Int.tdiv_one, l3_1, z3a]
      · rw [if_neg c] at p2 bb
        have n1 : X k - X j ≠ 0 := fun z => c (hi j k (by omega) (by omega) (by omega) (by omega) (by omega))
        have n0 : ¬ z6 (X k - X j) = 0 := fun z => n1 ((z6eq (by omega) (by omega) (by omega) (by omega)).1 (Eq.trans z l6_0))
        rw [lX7_plainValue_77, if_neg g2, f2, if_neg (fun z => by have := (z3le (by omega) (by omega) (by omega) (by omega)).1 z; omega), if_neg (fun z => c ((z3eq (by omega) (by omega) (by omega) (by omega)).1 z)), show (3 : Int32) = z3 3 from rfl, z3a, z3a, if_neg (gix (by omega) (by omega) (by decide)), if_neg (gix (by omega) (by omega) (by decide)), z3nat (by omega) (by omega), z3nat (by omega) (by omega), e1, e2, z3s, z364 (by omega) (by omega), if_neg n0, p2, z6d (by omega) (by omega) (by omega) (by omega), Int.mul_assoc, Int.mul_tdiv_cancel_left _ n1, l3_1, z3a])
    (fun n a hp => by
      obtain ⟨g2, f2⟩ := s2c hs2
      try dsimp only
      rw [lX7_plainValue_77, if_neg g2, f2, if_pos ((z3le (by omega) (by omega) (by omega) (by omega)).2 (by omega))])
    C.toNat FU 0 (z6 (spz X 0 C)) (by omega) (fuel (by omega)) ⟨by omega, by
      have q := dqz_q (X := X) (f := 0) (b := C) (k := k) k0 k1
      rw [← q]
      rfl⟩
  rw [e, p2, show (C - C).toNat = 0 by omega]
  show some (z6 (1 * qqz X 0 C k)) = _
  rw [Int.one_mul]
/-- the numerator of the plain value -/
def plS (C : Int) (X Y : Int → Int) (x : Int) : Int := smz (fun k => Y k * qqz X 0 C k * woz X k x C.toNat) C.toNat 0
theorem plS_b (h0 : 0 ≤ C) (h5 : C ≤ 5) (hr : Rz C (-9) 9 X) (hry : Rz C (-20) 20 Y) (hi : Inj C X) (x0 : -12 ≤ x) (x1 : x ≤ 12) : (plS C X Y x).natAbs ≤ 124026212545200000 := by
  have a := smz_b (f := fun k => Y k * qqz X 0 C k * woz X k x C.toNat) (B := 24805242509040000) C.toNat 0 (fun i i0 i1 => by
    have r := hry i (by omega) (by omega)
    exact natAbs_mul_le (natAbs_mul_le (A := 20) (B := 6377292000) (by omega) (qqz_b2 h0 h5 hr hi i0 (by omega))) (woz_b h0 h5 hr i0 (by omega) x0 x1))
  have : C.toNat * 24805242509040000 ≤ 5 * 24805242509040000 := Nat.mul_le_mul_right _ (by omega)
  unfold plS
  omega
theorem pl60 (h0 : 0 ≤ C) (h5 : C ≤ 5) (hs2 : s 2 = z3 C) (hx : En 3 C s X) (hy : En 8 C s Y) (hr : Rz C (-9) 9 X) (hry : Rz C (-20) 20 Y) (hi : Inj C X) (x0 : -12 ≤ x) (x1 : x ≤ 12) : lX7_plainValue_60 (z3 x) (z6 (spz X 0 C)) s FU 0 0 = some (z6 (plS C X Y x)) := by
  obtain ⟨a, e, p1, p2⟩ := runr (fun n j (a : Int64) => lX7_plainValue_60 (z3 x) (z6 (spz X 0 C)) s n a (z3 j)) (fun j a => 0 ≤ j ∧ a = z6 (smz (fun k => Y k * qqz X 0 C k * woz X k x C.toNat) j.toNat 0)) C (fun a => a)
    (fun n j a hj hp => by
      obtain ⟨p1, p2⟩ := hp
      obtain ⟨g2, f2⟩ := s2c hs2
      have r2 := hry j (by omega) (by omega)
      have e2 := hy j (by omega) (by omega)
      have P := pl77 h0 h5 hs2 hx hr hi p1 hj
      have P : lX7_plainValue_77 (z3 j) s FU (z6 (spz X 0 C)) 0 = some (z6 (qqz X 0 C j)) := P
      refine ⟨z6 (smz (fun k => Y k * qqz X 0 C k * woz X k x C.toNat) (j + 1).toNat 0), ?_, by omega, rfl⟩
      rw [show (j + 1).toNat = j.toNat + 1 by omega, smz_e, show (0 : Int) + (j.toNat : Int) = j by omega]
      rw [lX7_plainValue_60, if_neg g2, f2, if_neg (fun z => by have := (z3le (by omega) (by omega) (by omega) (by omega)).1 z; omega), P, Option.bind_some, show (8 : Int32) = z3 8 from rfl, z3a, if_neg (gix (by omega) (by omega) (by decide)), wo7_in h0 h5 hs2 hx hr p1 hj (by omega) (by omega), Option.bind_some, z3nat (by omega) (by omega), e2, z364 (by omega) (by omega), p2, z6m, z6m, z6a, l3_1, z3a])
    (fun n a hp => by
      obtain ⟨g2, f2⟩ := s2c hs2
      try dsimp only
      rw [lX7_plainValue_60, if_neg g2, f2, if_pos ((z3le (by omega) (by omega) (by omega) (by omega)).2 (by omega))])
    C.toNat FU 0 (z6 0) (by omega) (fuel (by omega)) ⟨by omega, rfl⟩
  have e : lX7_plainValue_60 (z3 x) (z6 (spz X 0 C)) s FU 0 0 = some a := e
  rw [e, p2]
  rfl
theorem plN (c1 : 1 ≤ C) (h5 : C ≤ 5) (hi : Inj C X) : nmv C X Y (wtz C 0 d X W) x 1 * gwz C 0 d X W C = spz X 0 C ∧ nmv C X Y (wtz C 0 d X W) x 0 * gwz C 0 d X W C = plS C X Y x := by
  have m : ∀ k, 0 ≤ k → k < C → wtz C 0 d X W k * gwz C 0 d X W C = qqz X 0 C k := fun k k0 k1 => by rw [wtz_m k0 k1, raw_0 hi d W k0 k1]
  constructor
  · rw [← lagr c1 h5 hi (T := qqz X 0 C) (fun k k0 k1 => ozz_s hi k0 k1) x, Int.mul_comm]
    unfold nmv
    rw [Tz1]
    unfold plv
    rw [← smz_m]
    refine smz_c _ _ (fun k k0 k1 => ?_)
    rw [← m k k0 (by omega)]
    grind
  · rw [Int.mul_comm]
    unfold nmv
    rw [Tz0]
    unfold plv plS
    rw [← smz_m]
    refine smz_c _ _ (fun k k0 k1 => ?_)
    rw [← m k k0 (by omega)]
    grind
theorem plV (c1 : 1 ≤ C) (h5 : C ≤ 5) (hi : Inj C X) : kiz C X Y (wtz C 0 d X W) x = 0 ∧ vT C X Y (wtz C 0 d X W) x = rdT (plS C X Y x) (spz X 0 C) ∧ vB C X Y (wtz C 0 d X W) x = rdB (plS C X Y x) (spz X 0 C) := by
  obtain ⟨e1, e2⟩ := plN (X := X) (Y := Y) (d := d) (W := W) (x := x) c1 h5 hi
  have s0 : spz X 0 C ≠ 0 := spz_n0 (f := 0) (b := C) (C := C) (by omega) (by omega) (by omega) hi
  have n0 : nmv C X Y (wtz C 0 d X W) x 1 ≠ 0 := fun w => s0 (by rw [← e1, w, Int.zero_mul])
  refine ⟨?_, ?_⟩
  · unfold kiz knz
    rw [if_neg n0]
  · unfold vT vB
    rw [if_neg n0, if_neg n0]
    exact rd_u n0 s0 (by rw [← e1, ← e2]; grind)
end PLN
theorem ok_27 : SOK q_27 := by
  intro u z h
  obtain ⟨a, hO, ⟨⟨hc, hd, hm, hw, hx, hy⟩, ⟨hv, ho, hwt⟩⟩, ⟨s0, s1, s2, tx, ty, tw⟩⟩ := h.1
  have O := hO
  obtain ⟨h0, h5, m0, m1, d0, d1, hr, hry, hrw, hi⟩ := O
  have hbw := hO.bw
  obtain ⟨x, x0, x1, hu⟩ := ex3 (u 1)
  obtain ⟨y, y0, y1, hu2⟩ := ex3 (u 2)
  unfold q_27
  rw [hu, hu2]
  have tw12 : (12 : Int32) = z3 12 := rfl
  obtain ⟨g2, f2⟩ := s2c s2
  have le : a7_s z.2.1 (Int32.toNatClampNeg 2) ≤ 0 ↔ zC a ≤ 0 := by
    rw [f2, l3_0]
    exact z3le (by omega) (by omega) (by omega) (by omega)
  by_cases c1 : -12 ≤ x ∧ x ≤ 12
  · by_cases c2 : 0 ≤ y ∧ y ≤ 1
    · have hO2 : OkZ (zC a, 0, zD a, zX a, zY a, zW a) := ⟨h0, h5, Int.le_refl 0, by show (0 : Int) ≤ 2; omega, d0, d1, hr, hry, hrw, hi⟩
      have h3 : N3 a (a6_present_nodes_count z.1) (a6_present_nodes_degree z.1) (a6_present_nodes_mode z.1) (a6_present_nodes_ws z.1) (a6_present_nodes_xs z.1) (a6_present_nodes_ys z.1) := ⟨hc, hd, hm, hw, hx, hy⟩
      obtain ⟨k1, k2, k3, k4, k5, k6⟩ := h3.cp (a6_trial_nodes_ws z.1) (a6_trial_nodes_xs z.1) (a6_trial_nodes_ys z.1) hO
      have h3c : N3 (zC a, 0, zD a, zX a, zY a, zW a) (a6_present_nodes_count z.1) (a6_present_nodes_degree z.1) 0 (cpF (a6_trial_nodes_ws z.1) (a6_present_nodes_ws z.1)) (cpF (a6_trial_nodes_xs z.1) (a6_present_nodes_xs z.1)) (cpF (a6_trial_nodes_ys z.1) (a6_present_nodes_ys z.1)) := ⟨k1, k2, rfl, k4, k5, k6⟩
      obtain ⟨den1, num1, or1, pr1, so1, wt1, RK, hCv, -, -⟩ := reckon3 hO2 h3c (a6_trial_denominator z.1) (a6_trial_numerator z.1) (a6_trial_order z.1) (a6_trial_product z.1) (a6_trial_sorted z.1) (a6_trial_weights z.1)
      have hb2 : Bw (zC a) (wtz (zC a) 0 (zD a) (zX a) (zW a)) := hO2.bw
      have hCv : Crv (zC a) (zX a) (zY a) (wtz (zC a) 0 (zD a) (zX a) (zW a)) den1 num1 := hCv
      by_cases c3 : 1 ≤ zC a
      · obtain ⟨v1, v2, v3⟩ := plV (X := zX a) (Y := zY a) (d := zD a) (W := zW a) (x := x) c3 h5 hi
        have NV := nv_y h0 h5 hr hry hb2 hCv c1.1 c1.2 (by omega) (a6_answer_bottom z.1) (a6_answer_top z.1)
        rw [v2, v3] at NV
        have sb := spz_bf (X := zX a) (f := 0) (b := zC a) (C := zC a) (by omega) (by omega) (by omega) h5 hr
        have s0' := spz_n0 (X := zX a) (f := 0) (b := zC a) (C := zC a) (by omega) (by omega) (by omega) hi
        have pb := plS_b h0 h5 hr hry hi c1.1 c1.2
        have SP := span7 (f := 0) (b := zC a) h5 tx hr (by omega) (by omega) (by omega)
        have SP : mX7_span (a7_s z.2.1) 0 (z3 (zC a)) = some (z6 (spz (zX a) 0 (zC a))) := SP
        have P6 := pl60 h0 h5 s2 tx ty hr hry hi c1.1 c1.2
        have LY := lays7 (a := plS (zC a) (zX a) (zY a) x) (b := spz (zX a) 0 (zC a)) (by omega) (by omega) (by omega) (by omega) s0' (a7_low z.2.1) (a7_up z.2.1)
        generalize rdB (plS (zC a) (zX a) (zY a) x) (spz (zX a) 0 (zC a)) = vb at NV LY
        generalize rdT (plS (zC a) (zX a) (zY a) x) (spz (zX a) 0 (zC a)) = vt at NV LY
        have m6 : ∃ r3, mX6_plainValue (a6_answer_bottom z.1) (a6_answer_top z.1) (a6_present_nodes_count z.1) (a6_present_nodes_degree z.1) (a6_present_nodes_mode z.1) (a6_present_nodes_ws z.1) (a6_present_nodes_xs z.1) (a6_present_nodes_ys z.1) (a6_trial_denominator z.1) (a6_trial_nodes_count z.1) (a6_trial_nodes_degree z.1) (a6_trial_nodes_mode z.1) (a6_trial_nodes_ws z.1) (a6_trial_nodes_xs z.1) (a6_trial_nodes_ys z.1) (a6_trial_numerator z.1) (a6_trial_order z.1) (a6_trial_product z.1) (a6_trial_sorted z.1) (a6_trial_weights z.1) (z3 x) (z3 y) = some (0, (if y = 0 then z6 vt else z6 vb), r3) := by
          unfold mX6_plainValue
          rw [tw12, nw_y c1 x0 x1 (by omega) (by omega), Option.bind_some, if_pos rfl, np_y c2 y0 y1, Option.bind_some, if_pos rfl, copy3, Option.bind_some, RK, Option.bind_some, NV, Option.bind_some, if_pos rfl, part3 _ _ c2]
          exact ⟨_, rfl⟩
        obtain ⟨r3, m6⟩ := m6
        have m7 : mX7_plainValue (a7_low z.2.1) (a7_s z.2.1) (a7_thrown z.2.1) (a7_up z.2.1) (z3 x) (z3 y) = some ((if y = 0 then z6 vt else z6 vb), z6 vb, 0, z6 vt) := by
          unfold mX7_plainValue
          rw [iw_y c1 x0 x1, Option.bind_some, if_neg n10, ip_y c2 y0 y1, Option.bind_some, if_neg n10, if_neg g2, if_neg (fun w => by have := le.1 w; omega), g2_11, Option.bind_some, if_neg n10, if_neg g2, f2, SP, Option.bind_some, P6, Option.bind_some, LY, Option.bind_some, told7 _ _ c2]
          rfl
        have E6 : ∃ σ1 o1, h_plainValue z.1 (z3 x) (z3 y) z.2.2.1 = some (0, σ1, o1) ∧ (o1 0 = o1 0) ∧ ((0 : Int32) = 0 → o1 = vp_updL z.2.2.1 0 (if y = 0 then z6 vt else z6 vb)) ∧ ∀ τ, JZ z.1 τ → JZ σ1 τ := by
          apply Exists.intro
          apply Exists.intro
          refine ⟨?_, rfl, ?_, ?_⟩
          · unfold h_plainValue s6_plainValue
            rw [m6]
            rfl
          · exact fun _ => rfl
          · exact fun τ h => h
        have E7 : ∃ v1 τ1, s7_plainValue z.2.1 (z3 x) (z3 y) = some (v1, τ1) ∧ a7_thrown τ1 = 0 ∧ ((0 : Int32) = 0 → (if y = 0 then z6 vt else z6 vb) = (fun x => x) v1) ∧ ∀ σ, JZ σ z.2.1 → JZ σ τ1 := by
          apply Exists.intro
          apply Exists.intro
          refine ⟨?_, ?_, ?_, ?_⟩
          · unfold s7_plainValue
            rw [m7]
            rfl
          · rfl
          · exact fun _ => rfl
          · exact fun σ h => h
        obtain ⟨σ1, o1, e6, -, v6, j6⟩ := E6
        obtain ⟨w1, τ1, e7, t7, v7, j7⟩ := E7
        exact fin1 (fun x => x) e6 e7 t7 (fun w => by rw [v6 w, updL_s]; exact v7 w) (j7 _ (j6 _ h))
      · have e0 : zC a = 0 := by omega
        have kk : ¬ kiz (zC a) (zX a) (zY a) (wtz (zC a) 0 (zD a) (zX a) (zW a)) x ≤ 1 := by
          rw [e0, show ∀ wt : Int → Int, kiz 0 (zX a) (zY a) wt x = 3 from fun _ => rfl]
          decide
        have NV := nv_n h0 h5 hr hry hb2 hCv c1.1 c1.2 kk (a6_answer_bottom z.1) (a6_answer_top z.1)
        have m6 : ∃ r3, mX6_plainValue (a6_answer_bottom z.1) (a6_answer_top z.1) (a6_present_nodes_count z.1) (a6_present_nodes_degree z.1) (a6_present_nodes_mode z.1) (a6_present_nodes_ws z.1) (a6_present_nodes_xs z.1) (a6_present_nodes_ys z.1) (a6_trial_denominator z.1) (a6_trial_nodes_count z.1) (a6_trial_nodes_degree z.1) (a6_trial_nodes_mode z.1) (a6_trial_nodes_ws z.1) (a6_trial_nodes_xs z.1) (a6_trial_nodes_ys z.1) (a6_trial_numerator z.1) (a6_trial_order z.1) (a6_trial_product z.1) (a6_trial_sorted z.1) (a6_trial_weights z.1) (z3 x) (z3 y) = some (4, 0, r3) := by
          unfold mX6_plainValue
          rw [tw12, nw_y c1 x0 x1 (by omega) (by omega), Option.bind_some, if_pos rfl, np_y c2 y0 y1, Option.bind_some, if_pos rfl, copy3, Option.bind_some, RK, Option.bind_some, NV]
          exact ⟨_, rfl⟩
        obtain ⟨r3, m6⟩ := m6
        have m7 : mX7_plainValue (a7_low z.2.1) (a7_s z.2.1) (a7_thrown z.2.1) (a7_up z.2.1) (z3 x) (z3 y) = some (0, a7_low z.2.1, 2, a7_up z.2.1) := by
          unfold mX7_plainValue
          rw [iw_y c1 x0 x1, Option.bind_some, if_neg n10, ip_y c2 y0 y1, Option.bind_some, if_neg n10, if_neg g2, if_pos (le.2 (by omega)), g2_10]
          rfl
        have E6 : ∃ σ1 o1, h_plainValue z.1 (z3 x) (z3 y) z.2.2.1 = some (2, σ1, o1) ∧ (o1 0 = o1 0) ∧ ((2 : Int32) = 0 → o1 = vp_updL z.2.2.1 0 (0)) ∧ ∀ τ, JZ z.1 τ → JZ σ1 τ := by
          apply Exists.intro
          apply Exists.intro
          refine ⟨?_, rfl, ?_, ?_⟩
          · unfold h_plainValue s6_plainValue
            rw [m6]
            rfl
          · exact fun w => absurd w (by decide)
          · exact fun τ h => h
        have E7 : ∃ v1 τ1, s7_plainValue z.2.1 (z3 x) (z3 y) = some (v1, τ1) ∧ a7_thrown τ1 = 2 ∧ ((2 : Int32) = 0 → (0) = (fun x => x) v1) ∧ ∀ σ, JZ σ z.2.1 → JZ σ τ1 := by
          apply Exists.intro
          apply Exists.intro
          refine ⟨?_, ?_, ?_, ?_⟩
          · unfold s7_plainValue
            rw [m7]
            rfl
          · rfl
          · exact fun w => absurd w (by decide)
          · exact fun σ h => h
        obtain ⟨σ1, o1, e6, -, v6, j6⟩ := E6
        obtain ⟨w1, τ1, e7, t7, v7, j7⟩ := E7
        exact fin1 (fun x => x) e6 e7 t7 (fun w => by rw [v6 w, updL_s]; exact v7 w) (j7 _ (j6 _ h))
    · have m6 : ∃ r3, mX6_plainValue (a6_answer_bottom z.1) (a6_answer_top z.1) (a6_present_nodes_count z.1) (a6_present_nodes_degree z.1) (a6_present_nodes_mode z.1) (a6_present_nodes_ws z.1) (a6_present_nodes_xs z.1) (a6_present_nodes_ys z.1) (a6_trial_denominator z.1) (a6_trial_nodes_count z.1) (a6_trial_nodes_degree z.1) (a6_trial_nodes_mode z.1) (a6_trial_nodes_ws z.1) (a6_trial_nodes_xs z.1) (a6_trial_nodes_ys z.1) (a6_trial_numerator z.1) (a6_trial_order z.1) (a6_trial_product z.1) (a6_trial_sorted z.1) (a6_trial_weights z.1) (z3 x) (z3 y) = some (2, 0, r3) := by
        unfold mX6_plainValue
        rw [tw12, nw_y c1 x0 x1 (by omega) (by omega), Option.bind_some, if_pos rfl, np_n c2 y0 y1]
        exact ⟨_, rfl⟩
      obtain ⟨r3, m6⟩ := m6
      have m7 : mX7_plainValue (a7_low z.2.1) (a7_s z.2.1) (a7_thrown z.2.1) (a7_up z.2.1) (z3 x) (z3 y) = some (0, a7_low z.2.1, 1, a7_up z.2.1) := by
        unfold mX7_plainValue
        rw [iw_y c1 x0 x1, Option.bind_some, if_neg n10, ip_n c2 y0 y1, Option.bind_some, if_pos rfl, if_neg g2]
        (by_cases w : a7_s z.2.1 (Int32.toNatClampNeg 2) ≤ 0) <;> first | (rw [if_pos w, g2_0]; rfl) | (rw [if_neg w, g2_0]; rfl)
      have E6 : ∃ σ1 o1, h_plainValue z.1 (z3 x) (z3 y) z.2.2.1 = some (1, σ1, o1) ∧ (o1 0 = o1 0) ∧ ((1 : Int32) = 0 → o1 = vp_updL z.2.2.1 0 (0)) ∧ ∀ τ, JZ z.1 τ → JZ σ1 τ := by
        apply Exists.intro
        apply Exists.intro
        refine ⟨?_, rfl, ?_, ?_⟩
        · unfold h_plainValue s6_plainValue
          rw [m6]
          rfl
        · exact fun w => absurd w (by decide)
        · exact fun τ h => h
      have E7 : ∃ v1 τ1, s7_plainValue z.2.1 (z3 x) (z3 y) = some (v1, τ1) ∧ a7_thrown τ1 = 1 ∧ ((1 : Int32) = 0 → (0) = (fun x => x) v1) ∧ ∀ σ, JZ σ z.2.1 → JZ σ τ1 := by
        apply Exists.intro
        apply Exists.intro
        refine ⟨?_, ?_, ?_, ?_⟩
        · unfold s7_plainValue
          rw [m7]
          rfl
        · rfl
        · exact fun w => absurd w (by decide)
        · exact fun σ h => h
      obtain ⟨σ1, o1, e6, -, v6, j6⟩ := E6
      obtain ⟨w1, τ1, e7, t7, v7, j7⟩ := E7
      exact fin1 (fun x => x) e6 e7 t7 (fun w => by rw [v6 w, updL_s]; exact v7 w) (j7 _ (j6 _ h))
  · have m6 : ∃ r3, mX6_plainValue (a6_answer_bottom z.1) (a6_answer_top z.1) (a6_present_nodes_count z.1) (a6_present_nodes_degree z.1) (a6_present_nodes_mode z.1) (a6_present_nodes_ws z.1) (a6_present_nodes_xs z.1) (a6_present_nodes_ys z.1) (a6_trial_denominator z.1) (a6_trial_nodes_count z.1) (a6_trial_nodes_degree z.1) (a6_trial_nodes_mode z.1) (a6_trial_nodes_ws z.1) (a6_trial_nodes_xs z.1) (a6_trial_nodes_ys z.1) (a6_trial_numerator z.1) (a6_trial_order z.1) (a6_trial_product z.1) (a6_trial_sorted z.1) (a6_trial_weights z.1) (z3 x) (z3 y) = some (2, 0, r3) := by
      unfold mX6_plainValue
      rw [tw12, nw_n c1 x0 x1 (by omega) (by omega)]
      exact ⟨_, rfl⟩
    obtain ⟨r3, m6⟩ := m6
    have m7 : mX7_plainValue (a7_low z.2.1) (a7_s z.2.1) (a7_thrown z.2.1) (a7_up z.2.1) (z3 x) (z3 y) = some (0, a7_low z.2.1, 1, a7_up z.2.1) := by
      unfold mX7_plainValue
      rw [iw_n c1 x0 x1, Option.bind_some, if_pos rfl, if_neg g2]
      (by_cases w : a7_s z.2.1 (Int32.toNatClampNeg 2) ≤ 0) <;> first | (rw [if_pos w, g2_0]; rfl) | (rw [if_neg w, g2_0]; rfl)
    have E6 : ∃ σ1 o1, h_plainValue z.1 (z3 x) (z3 y) z.2.2.1 = some (1, σ1, o1) ∧ (o1 0 = o1 0) ∧ ((1 : Int32) = 0 → o1 = vp_updL z.2.2.1 0 (0)) ∧ ∀ τ, JZ z.1 τ → JZ σ1 τ := by
      apply Exists.intro
      apply Exists.intro
      refine ⟨?_, rfl, ?_, ?_⟩
      · unfold h_plainValue s6_plainValue
        rw [m6]
        rfl
      · exact fun w => absurd w (by decide)
      · exact fun τ h => h
    have E7 : ∃ v1 τ1, s7_plainValue z.2.1 (z3 x) (z3 y) = some (v1, τ1) ∧ a7_thrown τ1 = 1 ∧ ((1 : Int32) = 0 → (0) = (fun x => x) v1) ∧ ∀ σ, JZ σ z.2.1 → JZ σ τ1 := by
      apply Exists.intro
      apply Exists.intro
      refine ⟨?_, ?_, ?_, ?_⟩
      · unfold s7_plainValue
        rw [m7]
        rfl
      · rfl
      · exact fun w => absurd w (by decide)
      · exact fun σ h => h
    obtain ⟨σ1, o1, e6, -, v6, j6⟩ := E6
    obtain ⟨w1, τ1, e7, t7, v7, j7⟩ := E7
    exact fin1 (fun x => x) e6 e7 t7 (fun w => by rw [v6 w, updL_s]; exact v7 w) (j7 _ (j6 _ h))
