/-! What the class answers in the plain mode. -/
def Pl9 (a : AZ) : Prop := OkZ a ∧ zM a = 0 ∧ 1 ≤ zC a
theorem pl_w {a : AZ} (h : zM a = 0) : zw a = wtz (zC a) 0 (zD a) (zX a) (zW a) := by
  show wtz (zC a) (zM a) (zD a) (zX a) (zW a) = _
  rw [h]
section PLC
variable {a : AZ}
theorem pl_v (hp : Pl9 a) (x : Int) : kiz (zC a) (zX a) (zY a) (zw a) x = 0 ∧ vT (zC a) (zX a) (zY a) (zw a) x = rdT (plS (zC a) (zX a) (zY a) x) (spz (zX a) 0 (zC a)) ∧ vB (zC a) (zX a) (zY a) (zw a) x = rdB (plS (zC a) (zX a) (zY a) x) (spz (zX a) 0 (zC a)) := by
  obtain ⟨hO, hM, c1⟩ := hp
  rw [pl_w hM]
  exact plV c1 hO.2.1 hO.2.2.2.2.2.2.2.2.2
theorem pl_n (hp : Pl9 a) (x : Int) : nmv (zC a) (zX a) (zY a) (zw a) x 1 * gwz (zC a) 0 (zD a) (zX a) (zW a) (zC a) = spz (zX a) 0 (zC a) := by
  obtain ⟨hO, hM, c1⟩ := hp
  rw [pl_w hM]
  exact (plN c1 hO.2.1 hO.2.2.2.2.2.2.2.2.2).1
theorem pl_s (hp : Pl9 a) : spz (zX a) 0 (zC a) ≠ 0 := by
  obtain ⟨hO, hM, c1⟩ := hp
  exact spz_n0 (f := 0) (b := zC a) (C := zC a) (by omega) (by omega) (by omega) hO.2.2.2.2.2.2.2.2.2
theorem pl_c (hp : Pl9 a) (x y : Int) : nmv (zC a) (zX a) (zY a) (zw a) x 1 = nmv (zC a) (zX a) (zY a) (zw a) y 1 := by
  have e1 := pl_n hp x
  have e2 := pl_n hp y
  have s := pl_s hp
  have g : gwz (zC a) 0 (zD a) (zX a) (zW a) (zC a) ≠ 0 := fun w => s (by rw [← e1, w, Int.mul_zero])
  exact Int.eq_of_mul_eq_mul_right g (e1.trans e2.symm)
theorem pl_n0 (hp : Pl9 a) (x : Int) : nmv (zC a) (zX a) (zY a) (zw a) x 1 ≠ 0 := fun w => pl_s hp (by rw [← pl_n hp x, w, Int.zero_mul])
theorem pl_k {C : Int} {X Y : Int → Int} (hi : Inj C X) {k : Int} (k0 : 0 ≤ k) (k1 : k < C) : plS C X Y (X k) = Y k * spz X 0 C := by
  unfold plS
  rw [smz_1 (i := k) C.toNat 0 k0 (by omega) (fun i i0 i1 hik => ?_)]
  · have e := ozz_s hi k0 k1
    have e2 : woz X k (X k) C.toNat = ozz C X k := rfl
    rw [e2, Int.mul_assoc, e]
  · have e : woz X i (X k) C.toNat = 0 := by
      unfold woz
      refine pdz_z (i := k) C.toNat 0 k0 (by omega) ?_
      show (if k = i then 1 else X k - X k) = 0
      rw [if_neg (fun w => hik w.symm)]
      omega
    show Y i * qqz X 0 C i * woz X i (X k) C.toNat = 0
    rw [e, Int.mul_zero]
theorem rd_w {y s : Int} (h : s ≠ 0) : rdT (y * s) s = y ∧ rdB (y * s) s = 1 := by
  have e : (y.gcd 1 : Nat) = 1 := Int.gcd_one
  exact rd_x (c := s) h rfl (by rw [Int.one_mul]) (by omega) e
theorem pl_met (hp : Pl9 a) {k : Int} (k0 : 0 ≤ k) (k1 : k < zC a) : metz (zC a) (zX a) (zY a) (zw a) k := by
  obtain ⟨e1, e2, e3⟩ := pl_v hp (zX a k)
  have hi := hp.1.2.2.2.2.2.2.2.2.2
  have r := rd_w (y := zY a k) (pl_s hp)
  rw [pl_k hi k0 k1] at e2 e3
  exact ⟨by omega, by rw [e2, r.1], by rw [e3, r.2]⟩
theorem a_missed {h : Int} {σ : S6} (hp : Pl9 a) (hJ : JA a h σ) : ∃ σ', s6_missed σ = some (0, σ') ∧ JA a h σ' := by
  obtain ⟨hO, ⟨hc, hd, hm, hw, hx, hy⟩, ⟨hv, ho, hwt⟩, hh, hf⟩ := hJ
  have O := hO
  obtain ⟨h0, h5, m0, m1, d0, d1, hr, hry, hrw, hi⟩ := O
  have K : ∃ b t, mX6_missed (a6_answer_bottom σ) (a6_answer_top σ) (a6_present_denominator σ) (a6_present_nodes_count σ) (a6_present_nodes_xs σ) (a6_present_nodes_ys σ) (a6_present_numerator σ) = some (0, b, t) := by
    obtain ⟨q, e, -⟩ := runr (fun n j (q : Int64 × Int64) => lX6_missed_4 (a6_present_denominator σ) (z3 (zC a)) (a6_present_nodes_xs σ) (a6_present_nodes_ys σ) (a6_present_numerator σ) n 0 (z3 j) q.1 q.2) (fun j _ => 0 ≤ j) (zC a) (fun q => ((0 : Int32), q.1, q.2))
      (fun n j q hj hp2 => by
        have hp2 : 0 ≤ j := hp2
        obtain ⟨b1, t1, e1⟩ := (meets3 hO hx hy hv hp2 hj q.1 q.2).1 (pl_met hp hp2 hj)
        refine ⟨(b1, t1), ?_, by omega⟩
        try dsimp only
        rw [lX6_missed_4, mX3_size, Option.bind_some, if_neg (fun w => by have := (z3le (by omega) (by omega) (by omega) (by omega)).1 w; omega), e1, Option.bind_some, if_neg n10, l3_1, z3a])
      (fun n q hp2 => by
        try dsimp only
        rw [lX6_missed_4, mX3_size, Option.bind_some, if_pos ((z3le (by omega) (by omega) (by omega) (by omega)).2 (Int.le_refl _))])
      (zC a).toNat FU 0 (a6_answer_bottom σ, a6_answer_top σ) (by omega) (fuel (by omega)) (by omega)
    have e : lX6_missed_4 (a6_present_denominator σ) (z3 (zC a)) (a6_present_nodes_xs σ) (a6_present_nodes_ys σ) (a6_present_numerator σ) FU 0 0 (a6_answer_bottom σ) (a6_answer_top σ) = some (0, q.1, q.2) := e
    refine ⟨q.1, q.2, ?_⟩
    unfold mX6_missed
    rw [hc, e]
    rfl
  obtain ⟨b, t, K⟩ := K
  apply Exists.intro
  refine ⟨?_, ?_⟩
  · unfold s6_missed
    rw [K]
    rfl
  · exact ⟨hO, ⟨hc, hd, hm, hw, hx, hy⟩, ⟨hv, ho, hwt⟩, hh, hf⟩
theorem a_many {h : Int} {σ : S6} (kd : Int32) (hJ : JA a h σ) : ∃ σ', s6_many σ kd = some (z3 (smz (fun k => chi (z3 (kiz (zC a) (zX a) (zY a) (zw a) k) = kd)) 25 (-12)), σ') ∧ JA a h σ' := by
  have hJ9 := hJ
  obtain ⟨hO, ⟨hc, hd, hm, hw, hx, hy⟩, ⟨hv, ho, hwt⟩, hh, hf⟩ := hJ
  have hbw := hO.bw
  obtain ⟨h0, h5, m0, m1, d0, d1, hr, hry, hrw, hi⟩ := hO
  have K3 : mX6_many (a6_present_denominator σ) (a6_present_numerator σ) kd = some (z3 (smz (fun k => chi (z3 (kiz (zC a) (zX a) (zY a) (zw a) k) = kd)) 25 (-12))) := by
    have H := runz (fun n j (q : Int) => lX6_many_5 kd (a6_present_denominator σ) (a6_present_numerator σ) n (z3 q) (z3 j)) (fun j q => q + chi (z3 (kiz (zC a) (zX a) (zY a) (zw a) j) = kd)) (fun j q => -12 ≤ j) 13 z3
      (fun n j q hj hp => by
        have hp : -12 ≤ j := hp
        refine ⟨?_, by omega⟩
        rw [lX6_many_5, if_neg (q12lt (by omega) (by omega)), kind3 h0 h5 hr hry hbw hv hp (by omega), Option.bind_some]
        by_cases c : z3 (kiz (zC a) (zX a) (zY a) (zw a) j) = kd
        · rw [if_pos c, chi_y c, l3_1, z3a, z3a]
        · rw [if_neg c, chi_n c, l3_1, z3a, Int.add_zero])
      (fun n q hp => by
        rw [lX6_many_5, if_pos (by decide)])
      25 FU (-12) 0 (by omega) (by decide) (by omega)
    rw [itz_s, Int.zero_add] at H
    have H1 : lX6_many_5 kd (a6_present_denominator σ) (a6_present_numerator σ) FU 0 (-12) = _ := H.1
    unfold mX6_many
    rw [H1]
    rfl
  apply Exists.intro
  refine ⟨?_, ?_⟩
  · unfold s6_many
    rw [K3]
    rfl
  · exact hJ9
theorem a_many0 {h : Int} {σ : S6} (hp : Pl9 a) (hJ : JA a h σ) : ∃ σ', s6_many σ 0 = some (25, σ') ∧ JA a h σ' := by
  obtain ⟨σ', e, j⟩ := a_many 0 hJ
  refine ⟨σ', ?_, j⟩
  rw [e, smz_c (g := fun _ => 1) 25 (-12) (fun i i0 i1 => chi_y (by rw [(pl_v hp i).1]; rfl)), smz_k]
  rfl
theorem a_hid {h : Int} {σ : S6} (hp : Pl9 a) (hJ : JA a h σ) : ∃ σ', s6_hiddenPoles σ = some (0, σ') ∧ JA a h σ' := by
  have hJ9 := hJ
  obtain ⟨hO, ⟨hc, hd, hm, hw, hx, hy⟩, ⟨hv, ho, hwt⟩, hh, hf⟩ := hJ
  have hbw := hO.bw
  obtain ⟨h0, h5, m0, m1, d0, d1, hr, hry, hrw, hi⟩ := hO
  have K3 : mX6_hiddenPoles (a6_present_denominator σ) (a6_present_numerator σ) = some 0 := by
    obtain ⟨q, e, -⟩ := runr (fun n j (_ : Unit) => lX6_hiddenPoles_5 (a6_present_denominator σ) (a6_present_numerator σ) n 0 (z3 j)) (fun j _ => -12 ≤ j) 12 (fun _ => (0 : Int32))
      (fun n j q hj hp2 => by
        have hp2 : -12 ≤ j := hp2
        have M := hid3 h0 h5 hr hry hbw hv hp2 hj
        have nh : ¬ hidz (zC a) (zX a) (zY a) (zw a) j := fun w => by
          have c := pl_c hp j (j + 1)
          unfold hidz at w
          omega
        refine ⟨(), ?_, by omega⟩
        try dsimp only
        rw [lX6_hiddenPoles_5, if_neg (q12le (by omega) (by omega)), M.2 nh, Option.bind_some, if_pos rfl, l3_1, z3a])
      (fun n q hp2 => by
        try dsimp only
        rw [lX6_hiddenPoles_5, if_pos (by decide)])
      24 FU (-12) () (by omega) (by decide) (by omega)
    have e : lX6_hiddenPoles_5 (a6_present_denominator σ) (a6_present_numerator σ) FU 0 (-12) = some 0 := e
    unfold mX6_hiddenPoles
    rw [e]
    rfl
  apply Exists.intro
  refine ⟨?_, ?_⟩
  · unfold s6_hiddenPoles
    rw [K3]
    rfl
  · exact hJ9
theorem pl_q (hp : Pl9 a) {p : Int} (p1 : 1 ≤ p) (p5 : p < 5) : cfz (zX a) (Tz 1 (zw a) (zY a)) (zC a).toNat (zC a).toNat p = 0 := by
  have h5 := hp.1.2.1
  have h0 := hp.1.1
  have V : ∀ x, evz (cfz (zX a) (Tz 1 (zw a) (zY a)) (zC a).toNat (zC a).toNat) x = nmv (zC a) (zX a) (zY a) (zw a) x 1 := fun x => (cfz_v (zX a) (Tz 1 (zw a) (zY a)) (zC a).toNat x (by omega) (zC a).toNat (by omega)).1
  have c1 := pl_c hp 0 1
  have c2 := pl_c hp 0 (-1)
  have c3 := pl_c hp 0 2
  have c4 := pl_c hp 0 (-2)
  rw [← V, ← V] at c1 c2 c3 c4
  generalize cfz (zX a) (Tz 1 (zw a) (zY a)) (zC a).toNat (zC a).toNat = q at c1 c2 c3 c4 ⊢
  unfold evz at c1 c2 c3 c4
  have hh : q 1 = 0 ∧ q 2 = 0 ∧ q 3 = 0 ∧ q 4 = 0 := by omega
  have e : p = 1 ∨ p = 2 ∨ p = 3 ∨ p = 4 := by omega
  rcases e with rfl | rfl | rfl | rfl
  · exact hh.1
  · exact hh.2.1
  · exact hh.2.2.1
  · exact hh.2.2.2
theorem a_deg1 {h : Int} {σ : S6} (hp : Pl9 a) (hJ : JA a h σ) : ∃ σ', s6_degreeOf σ 1 = some (0, σ') ∧ JA a h σ' := by
  have hJ9 := hJ
  obtain ⟨hO, ⟨hc, hd, hm, hw, hx, hy⟩, ⟨hv, ho, hwt⟩, hh, hf⟩ := hJ
  have hbw := hO.bw
  obtain ⟨h0, h5, m0, m1, d0, d1, hr, hry, hrw, hi⟩ := hO
  obtain ⟨r, e, hr9⟩ := degree3 (fl := 1) (hv.fl 1)
  have V : evz (cfz (zX a) (Tz 1 (zw a) (zY a)) (zC a).toNat (zC a).toNat) 0 = nmv (zC a) (zX a) (zY a) (zw a) 0 1 := (cfz_v (zX a) (Tz 1 (zw a) (zY a)) (zC a).toNat 0 (by omega) (zC a).toNat (by omega)).1
  have n0 := pl_n0 hp 0
  have nb := (nmv_b h0 h5 hr hry hbw (x := 0) (by omega) (by omega) 1).1
  have q0 : z6 (cfz (zX a) (Tz 1 (zw a) (zY a)) (zC a).toNat (zC a).toNat 0) ≠ 0 := fun w => by
    have e0 : evz (cfz (zX a) (Tz 1 (zw a) (zY a)) (zC a).toNat (zC a).toNat) 0 = cfz (zX a) (Tz 1 (zw a) (zY a)) (zC a).toNat (zC a).toNat 0 := by
      unfold evz
      omega
    rw [← e0, V] at w
    have := (z6eq (b := 0) (by omega) (by omega) (by omega) (by omega)).1 w
    exact n0 this
  have er : r = 0 := by
    rcases hr9 with ⟨p, p0, p5, e1, e2, e3⟩ | ⟨e1, e2⟩
    · by_cases w : p = 0
      · rw [e1, w]
        rfl
      · exact absurd (by rw [pl_q hp (by omega) p5]; rfl) e2
    · exact absurd (e2 0 (by omega) (by omega)) q0
  subst er
  apply Exists.intro
  refine ⟨?_, ?_⟩
  · unfold s6_degreeOf
    rw [e]
    rfl
  · exact hJ9
theorem a_deg0 {h : Int} {σ : S6} (hJ : JA a h σ) (c1 : 1 ≤ zC a) : ∃ r σ', s6_degreeOf σ 0 = some (r, σ') ∧ ¬ z3 (zC a) ≤ r ∧ JA a h σ' := by
  have hJ9 := hJ
  obtain ⟨hO, ⟨hc, hd, hm, hw, hx, hy⟩, ⟨hv, ho, hwt⟩, hh, hf⟩ := hJ
  obtain ⟨h0, h5, m0, m1, d0, d1, hr, hry, hrw, hi⟩ := hO
  obtain ⟨r, e, hr9⟩ := degree3 (fl := 0) (hv.fl 0)
  have hi9 : ∀ p, zC a ≤ p → cfz (zX a) (Tz 0 (zw a) (zY a)) (zC a).toNat (zC a).toNat p = 0 := fun p hp => by
    unfold cfz
    rw [smz_c (g := fun _ => 0) (zC a).toNat 0 (fun i i0 i1 => ?_), smz_k, Int.mul_zero]
    rw [prt_0 (zX a) i (zC a).toNat p (by rw [if_pos ⟨by omega, by omega⟩]; omega), Int.mul_zero]
  apply Exists.intro
  apply Exists.intro
  refine ⟨?_, fun w => ?_, hJ9⟩
  · unfold s6_degreeOf
    rw [e]
    rfl
  · rcases hr9 with ⟨p, p0, p5, e1, e2, e3⟩ | ⟨e1, e2⟩
    · rw [e1] at w
      have := (z3le (by omega) (by omega) (by omega) (by omega)).1 w
      exact e2 (by rw [hi9 p this]; rfl)
    · rw [e1] at w
      have := (z3le (by omega) (by omega) (by omega) (by omega)).1 w
      omega
/-- one factor below 0, the others above -/
theorem pdz_neg {f : Int → Int} {k : Int} : ∀ (m : Nat) (j : Int), (∀ i, j ≤ i → i < j + m → i ≠ k → 0 < f i) → j ≤ k → k < j + m → f k < 0 → pdz f m j < 0 := by
  intro m
  induction m with
  | zero => intro j _ h1 h2; omega
  | succ m ih =>
    intro j h h1 h2 h3
    rw [pdz_e]
    by_cases w : k = j + m
    · have hp := pdz_pos (f := f) m j (fun i i0 i1 => h i i0 (by omega) (by omega))
      rw [← w]
      exact Int.mul_neg_of_pos_of_neg hp h3
    · have hn := ih j (fun i i0 i1 i2 => h i i0 (by omega) i2) h1 (by omega) h3
      exact Int.mul_neg_of_neg_of_pos hn (h _ (by omega) (by omega) (by omega))
theorem oz_alt {C : Int} {X : Int → Int} (hi : Inj C X) {p : Int} (p0 : 0 < p) (p1 : p < C) : ozz C X (ivz C X p) * ozz C X (ivz C X (p - 1)) < 0 := by
  have s := ivz_s hi (p := p) (by omega) p1
  have s' := ivz_s hi (p := p - 1) (by omega) (by omega)
  have lt := ivz_lt hi (p := p - 1) (q := p) (by omega) (by omega) p1
  generalize hk : ivz C X p = k at s lt ⊢
  generalize hk' : ivz C X (p - 1) = k' at s' lt ⊢
  have hne : k ≠ k' := fun w => by rw [w] at lt; omega
  unfold ozz
  rw [← pdz_m]
  refine pdz_neg (k := k) C.toNat 0 (fun j j0 j1 jk => ?_) s.1 (by omega) ?_
  · show 0 < (if j = k then 1 else X k - X j) * (if j = k' then 1 else X k' - X j)
    rw [if_neg jk]
    by_cases w : j = k'
    · rw [if_pos w, w]
      omega
    · rw [if_neg w]
      have q0 := plz_ge C X j
      have q1 := plz_r (X := X) j0 (show j < C by omega)
      have ej := ivz_p hi j0 (show j < C by omega)
      have n1 : plz C X j ≠ p := fun z => jk (by rw [← ej, z, hk])
      have n2 : plz C X j ≠ p - 1 := fun z => w (by rw [← ej, z, hk'])
      by_cases z : plz C X j < p - 1
      · have l1 := ivz_lt hi q0 z (by omega)
        rw [ej, hk'] at l1
        exact Int.mul_pos (by omega) (by omega)
      · have l1 := ivz_lt hi (p := p) (q := plz C X j) (by omega) (by omega) q1
        rw [ej, hk] at l1
        exact Int.mul_pos_of_neg_of_neg (by omega) (by omega)
  · show (if k = k then 1 else X k - X k) * (if k = k' then 1 else X k' - X k) < 0
    rw [if_pos rfl, if_neg hne]
    omega
theorem pl_alt (hp : Pl9 a) {p : Int} (p0 : 0 ≤ p) (p1 : p < zC a) : ¬ badz (fun p => zw a (ivz (zC a) (zX a) p)) p := by
  obtain ⟨hO, hM, c1⟩ := id hp
  have hi := hO.2.2.2.2.2.2.2.2.2
  have ws : ∀ q, 0 ≤ q → q < zC a → zw a (ivz (zC a) (zX a) q) * gwz (zC a) 0 (zD a) (zX a) (zW a) (zC a) * ozz (zC a) (zX a) (ivz (zC a) (zX a) q) = spz (zX a) 0 (zC a) := fun q q0 q1 => by
    have s := ivz_s hi q0 q1
    rw [pl_w hM, wtz_m s.1 s.2.1, raw_0 hi _ _ s.1 s.2.1, ozz_s hi s.1 s.2.1]
  have s0 := pl_s hp
  have e1 := ws p p0 p1
  rintro (w | ⟨w0, w⟩)
  · have w : zw a (ivz (zC a) (zX a) p) = 0 := w
    rw [w, Int.zero_mul, Int.zero_mul] at e1
    exact s0 e1.symm
  · have w : (0 < zw a (ivz (zC a) (zX a) p)) ↔ (0 < zw a (ivz (zC a) (zX a) (p - 1))) := w
    have e2 := ws (p - 1) (by omega) (by omega)
    have ol := oz_alt hi w0 p1
    generalize zw a (ivz (zC a) (zX a) p) = u at e1 w
    generalize zw a (ivz (zC a) (zX a) (p - 1)) = v at e2 w
    generalize ozz (zC a) (zX a) (ivz (zC a) (zX a) p) = o1 at e1 ol
    generalize ozz (zC a) (zX a) (ivz (zC a) (zX a) (p - 1)) = o2 at e2 ol
    generalize gwz (zC a) 0 (zD a) (zX a) (zW a) (zC a) = g at e1 e2
    generalize spz (zX a) 0 (zC a) = s at e1 e2 s0
    have hs2 : 0 < s * s := by
      rcases Int.lt_trichotomy s 0 with h | h | h
      · exact Int.mul_pos_of_neg_of_neg h h
      · exact absurd h s0
      · exact Int.mul_pos h h
    have key : (u * v) * ((g * g) * (o1 * o2)) = s * s := by
      have : (u * g * o1) * (v * g * o2) = s * s := by rw [e1, e2]
      rw [← this]
      grind
    have u0 : u ≠ 0 := fun z => by rw [z, Int.zero_mul, Int.zero_mul] at e1; exact s0 e1.symm
    have v0 : v ≠ 0 := fun z => by rw [z, Int.zero_mul, Int.zero_mul] at e2; exact s0 e2.symm
    have uv : 0 < u * v := by
      rcases Int.lt_trichotomy u 0 with h | h | h
      · have : ¬ 0 < v := fun z => by have := w.2 z; omega
        exact Int.mul_pos_of_neg_of_neg h (by omega)
      · exact absurd h u0
      · exact Int.mul_pos h (w.1 h)
    have gg : 0 ≤ g * g := by
      rcases Int.lt_trichotomy g 0 with h | h | h
      · exact Int.le_of_lt (Int.mul_pos_of_neg_of_neg h h)
      · rw [h]; decide
      · exact Int.le_of_lt (Int.mul_pos h h)
    have n1 : (g * g) * (o1 * o2) ≤ 0 := by
      have := Int.mul_nonneg gg (show 0 ≤ -(o1 * o2) by omega)
      rw [Int.mul_neg] at this
      omega
    have n2 : (u * v) * ((g * g) * (o1 * o2)) ≤ 0 := by
      have := Int.mul_nonneg (Int.le_of_lt uv) (show 0 ≤ -((g * g) * (o1 * o2)) by omega)
      rw [Int.mul_neg] at this
      omega
    omega
end PLC
