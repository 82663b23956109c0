/-! Floating point: what step 16 needs of it. -/
theorem fp_enc (s : Bool) (e t : Nat) (he : e < 2048) (ht : t < 4503599627370496) : FP.Core.assemble FP.Core.b64 s e t = s.toNat * 9223372036854775808 + (e * 4503599627370496 + t) := by
  show (s.toNat * 2048 + e) * 4503599627370496 + t = _
  omega
theorem fp_dec (s : Bool) (e t : Nat) (he : 0 < e) (he2 : e < 2047) (ht : t < 4503599627370496) : FP.Core.decode FP.Core.b64 (s.toNat * 9223372036854775808 + (e * 4503599627370496 + t)) = .fin s (4503599627370496 + t) (-1074 + ((e : Int) - 1)) := by
  have a1 : FP.Core.fieldE FP.Core.b64 (s.toNat * 9223372036854775808 + (e * 4503599627370496 + t)) = e := by
    show (s.toNat * 9223372036854775808 + (e * 4503599627370496 + t)) / 4503599627370496 % 2048 = e
    omega
  have a2 : FP.Core.fieldT FP.Core.b64 (s.toNat * 9223372036854775808 + (e * 4503599627370496 + t)) = t := by
    show (s.toNat * 9223372036854775808 + (e * 4503599627370496 + t)) % 4503599627370496 = t
    omega
  have a3 : FP.Core.fieldS FP.Core.b64 (s.toNat * 9223372036854775808 + (e * 4503599627370496 + t)) = s := by
    show ((s.toNat * 9223372036854775808 + (e * 4503599627370496 + t)) / 4503599627370496 / 2048 % 2 == 1) = s
    have : (s.toNat * 9223372036854775808 + (e * 4503599627370496 + t)) / 4503599627370496 / 2048 % 2 = s.toNat := by
      cases s <;> simp only [Bool.toNat_true, Bool.toNat_false] <;> omega
    rw [this]
    cases s <;> rfl
  have x1 : FP.Core.b64.exps - 1 = 2047 := rfl
  unfold FP.Core.decode
  rw [a1, a2, a3, x1, if_neg (by omega), if_neg (by omega)]
  rfl
theorem fp_settle (s : Bool) (c : Nat) (q : Int) (h1 : 4503599627370496 ≤ c) (h2 : c ≤ 9007199254740992) (q1 : -1074 ≤ q) (q2 : q < 971) : ∃ c1 q1, FP.Core.decode FP.Core.b64 (FP.Core.encode FP.Core.b64 (FP.Core.settle FP.Core.b64 s c q)) = .fin s c1 q1 ∧ 0 < c1 ∧ FP.Core.encode FP.Core.b64 (FP.Core.settle FP.Core.b64 s c q) < 18446744073709551616 := by
  have k : ∀ (c : Nat) (q : Int), 4503599627370496 ≤ c → c < 9007199254740992 → -1074 ≤ q → q ≤ 971 → ∃ c1 q1, FP.Core.decode FP.Core.b64 (FP.Core.encode FP.Core.b64 (FP.Core.bound FP.Core.b64 s c q)) = .fin s c1 q1 ∧ 0 < c1 ∧ FP.Core.encode FP.Core.b64 (FP.Core.bound FP.Core.b64 s c q) < 18446744073709551616 := by
    intro c q h1 h2 q1 q2
    have b1 : FP.Core.bound FP.Core.b64 s c q = .fin s c q := if_pos q2
    have b2 : FP.Core.encode FP.Core.b64 (.fin s c q) = s.toNat * 9223372036854775808 + (((q + 1074).toNat + 1) * 4503599627370496 + (c - 4503599627370496)) := by
      rw [← fp_enc s ((q + 1074).toNat + 1) (c - 4503599627370496) (by omega) (by omega)]
      have t : ¬ c < FP.Core.b64.tails := by
        show ¬ c < 4503599627370496
        omega
      have g : (q - FP.Core.b64.qmin).toNat = (q + 1074).toNat := by
        show (q - (-1074)).toNat = (q + 1074).toNat
        omega
      unfold FP.Core.encode
      dsimp only
      rw [if_neg t, g]
      rfl
    rw [b1, b2, fp_dec s _ _ (by omega) (by omega) (by omega)]
    refine ⟨_, _, rfl, by omega, ?_⟩
    cases s <;> simp only [Bool.toNat_true, Bool.toNat_false] <;> omega
  unfold FP.Core.settle
  by_cases w : c < 2 ^ FP.Core.b64.p
  · rw [if_pos w]
    have w2 : c < 9007199254740992 := w
    exact k c q h1 w2 q1 (by omega)
  · rw [if_neg w]
    exact k _ (q + 1) (Nat.le_refl _) (by decide) (by omega) (by omega)
theorem fp_near1 (n : Nat) : FP.Core.nearest n 1 = n := by
  unfold FP.Core.nearest
  rw [Nat.mod_one, if_pos (by decide), Nat.div_one]
theorem fp_nearb (n d : Nat) : n / d ≤ FP.Core.nearest n d ∧ FP.Core.nearest n d ≤ n / d + 1 := by
  unfold FP.Core.nearest
  split
  · omega
  · split <;> omega
theorem fp_int {i : Int} (h : i.natAbs ≤ 124026212545200000) : ∃ s c q, FP.Core.decode FP.Core.b64 (FP.Core.fromInt FP.Core.b64 i) = .fin s c q ∧ (i ≠ 0 → 0 < c) ∧ (0 < i → s = false) ∧ FP.Core.fromInt FP.Core.b64 i < 18446744073709551616 := by
  have e0 : FP.Core.fromInt FP.Core.b64 i = FP.Core.encode FP.Core.b64 (FP.Core.roundRatio FP.Core.b64 (decide (i < 0)) i.natAbs 1 0) := rfl
  have s0 : 0 < i → decide (i < 0) = false := fun w => decide_eq_false (by omega)
  rw [e0]
  generalize decide (i < 0) = s at *
  generalize hn : i.natAbs = n at *
  unfold FP.Core.roundRatio
  by_cases z : n = 0
  · rw [if_pos z]
    have i0 : i = 0 := by omega
    cases s
    · exact ⟨false, 0, -1074, rfl, fun w => absurd i0 w, s0, by decide⟩
    · exact ⟨true, 0, -1074, rfl, fun w => absurd i0 w, s0, by decide⟩
  · rw [if_neg z]
    have lg : FP.Core.leading n 1 = (n.log2 : Int) := by
      have a1 : (Nat.log2 1) = 0 := by decide
      have a2 : (((n.log2 : Nat) : Int) - ((0 : Nat) : Int)).toNat = n.log2 := by omega
      have a3 : (-(((n.log2 : Nat) : Int) - ((0 : Nat) : Int))).toNat = 0 := by omega
      unfold FP.Core.leading
      rw [a1]
      dsimp only
      rw [a2, a3, if_pos]
      · omega
      · have := Nat.log2_self_le z
        omega
    have l57 : n.log2 < 57 := (Nat.log2_lt z).2 (by omega)
    have qq : FP.Core.quantum FP.Core.b64 n 1 0 = (n.log2 : Int) - 52 := by
      show max (-1074) (FP.Core.leading n 1 + 0 - 52) = _
      rw [lg]
      omega
    rw [qq]
    have lo := Nat.log2_self_le z
    have hi : n < 2 ^ (n.log2 + 1) := Nat.lt_log2_self
    obtain ⟨cc, e1, c1, c2⟩ : ∃ cc, FP.Core.nearest (FP.Core.unitsNum n 0 ((n.log2 : Int) - 52)) (FP.Core.unitsDen 1 0 ((n.log2 : Int) - 52)) = cc ∧ 4503599627370496 ≤ cc ∧ cc ≤ 9007199254740992 := by
      refine ⟨_, rfl, ?_⟩
      generalize n.log2 = L at *
      unfold FP.Core.unitsNum FP.Core.unitsDen
      by_cases w : L ≤ 52
      · have b1 : (((L : Int) - 52) - 0).toNat = 0 := by omega
        have b2 : (0 - ((L : Int) - 52)).toNat = 52 - L := by omega
        rw [b1, b2, Nat.pow_zero, Nat.mul_one, fp_near1]
        have p1 : 2 ^ L * 2 ^ (52 - L) = 4503599627370496 := by
          rw [← Nat.pow_add, show L + (52 - L) = 52 by omega]
        have p2 : 2 ^ (L + 1) * 2 ^ (52 - L) = 9007199254740992 := by
          rw [← Nat.pow_add, show L + 1 + (52 - L) = 53 by omega]
        have m1 := Nat.mul_le_mul_right (2 ^ (52 - L)) lo
        have m2 := Nat.mul_le_mul_right (2 ^ (52 - L)) (Nat.le_of_lt hi)
        omega
      · have b1 : (((L : Int) - 52) - 0).toNat = L - 52 := by omega
        have b2 : (0 - ((L : Int) - 52)).toNat = 0 := by omega
        rw [b1, b2, Nat.pow_zero, Nat.mul_one, Nat.one_mul]
        have p1 : 2 ^ 52 * 2 ^ (L - 52) = 2 ^ L := by
          rw [← Nat.pow_add, show 52 + (L - 52) = L by omega]
        have p2 : 2 ^ 53 * 2 ^ (L - 52) = 2 ^ (L + 1) := by
          rw [← Nat.pow_add, show 53 + (L - 52) = L + 1 by omega]
        have pp : 0 < 2 ^ (L - 52) := Nat.pow_pos (by decide)
        obtain ⟨f1, f2⟩ := fp_nearb n (2 ^ (L - 52))
        have g1 : 2 ^ 52 ≤ n / 2 ^ (L - 52) := (Nat.le_div_iff_mul_le pp).2 (by omega)
        have g2 : n / 2 ^ (L - 52) < 2 ^ 53 := (Nat.div_lt_iff_lt_mul pp).2 (by omega)
        generalize n / 2 ^ (L - 52) = Q at *
        omega
    obtain ⟨c3, q3, d1, d2, d3⟩ := fp_settle s cc ((n.log2 : Int) - 52) c1 c2 (by omega) (by omega)
    unfold FP.Core.roundAt
    rw [e1]
    exact ⟨s, c3, q3, d1, fun _ => d2, s0, d3⟩
theorem fp_l2d {z : Int} (h : z.natAbs ≤ 124026212545200000) : ∃ s c q, FP.Core.decode FP.Core.b64 (FP.l2d (z6 z)).toNat = .fin s c q ∧ (z ≠ 0 → 0 < c) ∧ (0 < z → s = false) := by
  obtain ⟨s, c, q, h1, h2, h3, h4⟩ := fp_int h
  have e : (FP.l2d (z6 z)).toNat = FP.Core.fromInt FP.Core.b64 z := by
    show (UInt64.ofNat (FP.Core.fromInt FP.Core.b64 (z6 z).toInt)).toNat = _
    rw [z6t (by omega) (by omega), UInt64.toNat_ofNat', Nat.mod_eq_of_lt h4]
  rw [e]
  exact ⟨s, c, q, h1, h2, h3⟩
theorem fp_h1 : ∀ b : Int, 0 < b → b ≤ 124026212545200000 → ¬ Op.cmpValue (FP.dcmp (FP.l2d (z6 b)) FP.dconst0) .l = 0 := by
  intro b b0 b1
  obtain ⟨s, c, q, h1, h2, h3⟩ := fp_l2d (z := b) (by omega)
  have h3 := h3 b0
  have h2 := h2 (by omega)
  subst h3
  have e : FP.dcmp (FP.l2d (z6 b)) FP.dconst0 = some .gt := by
    show FP.Core.order (FP.Core.decode FP.Core.b64 (FP.l2d (z6 b)).toNat) (FP.Core.decode FP.Core.b64 0) = some .gt
    rw [h1]
    show some (compare (FP.Core.signed false (FP.Core.inUnits c q (min q (-1074)))) (FP.Core.signed false (FP.Core.inUnits 0 (-1074) (min q (-1074))))) = some .gt
    have e2 : FP.Core.inUnits 0 (-1074) (min q (-1074)) = 0 := Nat.zero_mul _
    have e3 : 0 < FP.Core.inUnits c q (min q (-1074)) := Nat.mul_pos h2 (Nat.pow_pos (by decide))
    rw [e2]
    generalize FP.Core.inUnits c q (min q (-1074)) = m at *
    show some (compare (m : Int) 0) = some .gt
    rw [Int.compare_eq_gt.2 (by omega)]
  rw [e]
  decide
theorem fp_mask (s : Bool) (m : Nat) (h : m ≤ 9218868437227405312) : UInt64.ofNat (s.toNat * 9223372036854775808 + m) &&& 0x7fffffffffffffff ≤ 0x7ff0000000000000 := by
  rw [UInt64.le_iff_toNat_le, UInt64.toNat_and, UInt64.toNat_ofNat']
  show (s.toNat * 9223372036854775808 + m) % 18446744073709551616 &&& 9223372036854775807 ≤ 9218868437227405312
  have := Nat.and_two_pow_sub_one_eq_mod ((s.toNat * 9223372036854775808 + m) % 18446744073709551616) 63
  have e : (2 ^ 63 - 1 : Nat) = 9223372036854775807 := by decide
  rw [e] at this
  rw [this]
  cases s <;> simp only [Bool.toNat_true, Bool.toNat_false] <;> omega
theorem fp_bd (s : Bool) (c : Nat) (q : Int) (h : c < 9007199254740992) (hq : -1074 ≤ q) : UInt64.ofNat (FP.Core.encode FP.Core.b64 (FP.Core.bound FP.Core.b64 s c q)) &&& 0x7fffffffffffffff ≤ 0x7ff0000000000000 := by
  unfold FP.Core.bound
  by_cases w : q ≤ FP.Core.b64.qmax
  · rw [if_pos w]
    have w2 : q ≤ 971 := w
    unfold FP.Core.encode
    dsimp only
    by_cases v : c < FP.Core.b64.tails
    · rw [if_pos v]
      have v2 : c < 4503599627370496 := v
      rw [fp_enc s 0 c (by omega) v2]
      exact fp_mask s _ (by omega)
    · rw [if_neg v]
      have v2 : ¬ c < 4503599627370496 := v
      have g : (q - FP.Core.b64.qmin).toNat = (q + 1074).toNat := by
        show (q - (-1074)).toNat = (q + 1074).toNat
        omega
      have t : c - FP.Core.b64.tails = c - 4503599627370496 := rfl
      rw [g, t, fp_enc s _ _ (by omega) (by omega)]
      exact fp_mask s _ (by omega)
  · rw [if_neg w]
    have g : FP.Core.encode FP.Core.b64 (.inf s) = s.toNat * 9223372036854775808 + (2047 * 4503599627370496 + 0) := (fp_enc s 2047 0 (by omega) (by omega))
    rw [g]
    exact fp_mask s _ (by omega)
theorem fp_rr (s : Bool) (n d : Nat) (e : Int) : UInt64.ofNat (FP.Core.encode FP.Core.b64 (FP.Core.roundRatio FP.Core.b64 s n d e)) &&& 0x7fffffffffffffff ≤ 0x7ff0000000000000 := by
  unfold FP.Core.roundRatio
  by_cases z : n = 0
  · rw [if_pos z]
    have g : FP.Core.encode FP.Core.b64 (.fin s 0 FP.Core.b64.qmin) = s.toNat * 9223372036854775808 + (0 * 4503599627370496 + 0) := (fp_enc s 0 0 (by omega) (by omega))
    rw [g]
    exact fp_mask s _ (by omega)
  · rw [if_neg z]
    have hq : -1074 ≤ FP.Core.quantum FP.Core.b64 n d e := by
      show (-1074 : Int) ≤ max (-1074) _
      omega
    generalize FP.Core.quantum FP.Core.b64 n d e = q at *
    unfold FP.Core.roundAt FP.Core.settle
    generalize FP.Core.nearest (FP.Core.unitsNum n e q) (FP.Core.unitsDen d e q) = c
    by_cases w : c < 2 ^ FP.Core.b64.p
    · rw [if_pos w]
      exact fp_bd s c q w hq
    · rw [if_neg w]
      exact fp_bd s _ (q + 1) (by decide) (by omega)
theorem fp_h2 : ∀ t b : Int, t.natAbs ≤ 124026212545200000 → 0 < b → b ≤ 124026212545200000 → FP.ddiv (FP.l2d (z6 t)) (FP.l2d (z6 b)) &&& 0x7fffffffffffffff ≤ 0x7ff0000000000000 := by
  intro t b t1 b0 b1
  obtain ⟨s, c, q, h1, h2, h3⟩ := fp_l2d t1
  obtain ⟨s', c', q', h1', h2', h3'⟩ := fp_l2d (z := b) (by omega)
  have e : FP.ddiv (FP.l2d (z6 t)) (FP.l2d (z6 b)) = UInt64.ofNat (FP.Core.encode FP.Core.b64 (FP.Core.quotient FP.Core.b64 (FP.Core.decode FP.Core.b64 (FP.l2d (z6 t)).toNat) (FP.Core.decode FP.Core.b64 (FP.l2d (z6 b)).toNat))) := rfl
  have n0 := h2' (by omega)
  rw [e, h1, h1']
  have e2 : FP.Core.quotient FP.Core.b64 (.fin s c q) (.fin s' c' q') = FP.Core.roundRatio FP.Core.b64 (s != s') c c' (q - q') := if_neg (by omega)
  rw [e2]
  exact fp_rr _ _ _ _
theorem ok_16 : SOK q_16 := ok_16h fp_h1 fp_h2
theorem ok_all : SOK q_step := ok_st2 ok_16
