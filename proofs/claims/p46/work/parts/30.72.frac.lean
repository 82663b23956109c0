/-! Fractions in lowest terms, and the sum of some. -/
theorem icop {k m n : Int} (h : Int.gcd k m = 1) (hd : k ∣ m * n) : k ∣ n := by
  have e : k.natAbs ∣ m.natAbs * n.natAbs := by
    rw [← Int.natAbs_mul]
    exact Int.natAbs_dvd_natAbs.2 hd
  exact Int.natAbs_dvd_natAbs.1 (Nat.Coprime.dvd_of_dvd_mul_left (show Nat.Coprime k.natAbs m.natAbs from h) e)
theorem gcd_c {a b T B c : Int} (hc : c ≠ 0) (ha : a = T * c) (hb : b = B * c) (hg : (Int.gcd a b : Int) = c.natAbs) : Int.gcd T B = 1 := by
  subst ha hb
  rw [Int.gcd_mul_right] at hg
  have h : Int.gcd T B * c.natAbs = 1 * c.natAbs := by omega
  exact Nat.eq_of_mul_eq_mul_right (by omega) h
theorem rd_c {a b : Int} (hb : b ≠ 0) : ∃ c, c ≠ 0 ∧ a = rdT a b * c ∧ b = rdB a b * c ∧ 0 < rdB a b ∧ Int.gcd (rdT a b) (rdB a b) = 1 := by
  have g := gcd_ps (a := a) hb
  have da := Int.gcd_dvd_left a b
  have db := Int.gcd_dvd_right a b
  unfold rdT rdB
  by_cases w : 0 ≤ b
  · rw [if_pos w, if_pos w]
    have e1 := Int.tdiv_mul_cancel da
    have e2 := Int.tdiv_mul_cancel db
    refine ⟨Int.gcd a b, by omega, e1.symm, e2.symm, ?_, gcd_c (c := Int.gcd a b) (by omega) e1.symm e2.symm (by omega)⟩
    have : 0 < b.tdiv (Int.gcd a b) * (Int.gcd a b : Int) := by omega
    exact Int.pos_of_mul_pos_left this g
  · rw [if_neg w, if_neg w]
    have e1 := Int.tdiv_mul_cancel (Int.neg_dvd.2 da)
    have e2 := Int.tdiv_mul_cancel (Int.neg_dvd.2 db)
    refine ⟨-(Int.gcd a b : Int), by omega, e1.symm, e2.symm, ?_, gcd_c (c := -(Int.gcd a b : Int)) (by omega) e1.symm e2.symm (by omega)⟩
    have : 0 < b.tdiv (-(Int.gcd a b : Int)) * (Int.gcd a b : Int) := by
      rw [Int.mul_neg] at e2
      omega
    exact Int.pos_of_mul_pos_left this g
theorem rd_x {a b T B c : Int} (hc : c ≠ 0) (ha : a = T * c) (hb : b = B * c) (hB : 0 < B) (hg : Int.gcd T B = 1) : rdT a b = T ∧ rdB a b = B := by
  have hb0 : b ≠ 0 := by
    rw [hb]
    exact Int.mul_ne_zero (by omega) hc
  obtain ⟨d, d0, e1, e2, e3, e4⟩ := rd_c (a := a) hb0
  have x : rdT a b * B = T * rdB a b := by
    have : rdT a b * B * (c * d) = T * rdB a b * (c * d) := by
      have h1 : rdT a b * B * (c * d) = (rdT a b * d) * (B * c) := by grind
      have h2 : T * rdB a b * (c * d) = (T * c) * (rdB a b * d) := by grind
      rw [h1, h2, ← e1, ← e2, ← ha, ← hb]
    exact Int.eq_of_mul_eq_mul_right (Int.mul_ne_zero hc d0) this
  have y1 : B ∣ rdB a b := icop (by rw [Int.gcd_comm]; exact hg) ⟨rdT a b, by rw [← x, Int.mul_comm]⟩
  have y2 : rdB a b ∣ B := icop (by rw [Int.gcd_comm]; exact e4) ⟨T, by rw [x, Int.mul_comm]⟩
  have y : rdB a b = B := Int.dvd_antisymm (by omega) (by omega) y2 y1
  refine ⟨?_, y⟩
  rw [y] at x
  exact Int.eq_of_mul_eq_mul_right (by omega) x
theorem rd_u {a b c d : Int} (hb : b ≠ 0) (hd : d ≠ 0) (h : a * d = c * b) : rdT a b = rdT c d ∧ rdB a b = rdB c d := by
  obtain ⟨e, e0, e1, e2, e3, e4⟩ := rd_c (a := a) hb
  obtain ⟨f, f0, f1, f2, f3, f4⟩ := rd_c (a := c) hd
  have x : rdT a b * rdB c d = rdT c d * rdB a b := by
    have : rdT a b * rdB c d * (e * f) = rdT c d * rdB a b * (e * f) := by
      have h1 : rdT a b * rdB c d * (e * f) = (rdT a b * e) * (rdB c d * f) := by grind
      have h2 : rdT c d * rdB a b * (e * f) = (rdT c d * f) * (rdB a b * e) := by grind
      rw [h1, h2, ← e1, ← e2, ← f1, ← f2, h]
    exact Int.eq_of_mul_eq_mul_right (Int.mul_ne_zero e0 f0) this
  have y1 : rdB c d ∣ rdB a b := icop (by rw [Int.gcd_comm]; exact f4) ⟨rdT a b, by rw [← x, Int.mul_comm]⟩
  have y2 : rdB a b ∣ rdB c d := icop (by rw [Int.gcd_comm]; exact e4) ⟨rdT c d, by rw [x, Int.mul_comm]⟩
  have y : rdB a b = rdB c d := Int.dvd_antisymm (by omega) (by omega) y2 y1
  refine ⟨?_, y⟩
  rw [y] at x
  exact Int.eq_of_mul_eq_mul_right (by omega) x
theorem rd_n {a b : Int} (hb : b ≠ 0) : rdT (-a) b = -rdT a b ∧ rdB (-a) b = rdB a b := by
  obtain ⟨e, e0, e1, e2, e3, e4⟩ := rd_c (a := a) hb
  refine rd_x e0 ?_ e2 e3 ?_
  · rw [Int.neg_mul, ← e1]
  · rw [Int.neg_gcd]
    exact e4
theorem rd_0 {b : Int} (hb : b ≠ 0) : rdT 0 b = 0 ∧ rdB 0 b = 1 := rd_x (c := b) hb (by rw [Int.zero_mul]) (by rw [Int.one_mul]) (by omega) rfl
theorem put0 (u v : Int64) {b : Int} (hb : b ≠ 0) : mX1_put u v 0 1 = some (z6 (rdB 0 b), z6 (rdT 0 b)) := by
  have h := put3 (a := 0) (b := 1) (by omega) (by omega) (by omega) (by omega) (by omega) u v
  rw [(rd_0 (show (1 : Int) ≠ 0 by omega)).1, (rd_0 (show (1 : Int) ≠ 0 by omega)).2] at h
  rw [(rd_0 hb).1, (rd_0 hb).2]
  exact h
theorem nab_le {a b : Int} (h : b ≠ 0) : a.natAbs ≤ (a * b).natAbs := by
  rw [Int.natAbs_mul]
  exact Nat.le_mul_of_pos_right _ (by omega)
/-- one more term: the sum stands over M -/
theorem addF {N M p1 p2 q : Int} (hM : M ≠ 0) (hq : M = p2 * q) (bM : M.natAbs < 9223372036854775807) (bN : (N + p1 * q).natAbs < 9223372036854775807) :
    mX1_add (z6 (rdB N M)) (z6 (rdT N M)) (z6 p1) (z6 p2) = some (z6 (rdB (N + p1 * q) M), z6 (rdT (N + p1 * q) M)) := by
  obtain ⟨c, c0, e1, e2, e3, e4⟩ := rd_c (a := N) hM
  have p20 : p2 ≠ 0 := fun w => hM (by rw [hq, w, Int.zero_mul])
  have q0 : q ≠ 0 := fun w => hM (by rw [hq, w, Int.mul_zero])
  generalize rdT N M = T at *
  generalize rdB N M = B at *
  have bB : B.natAbs ≤ M.natAbs := by
    rw [e2]
    exact nab_le c0
  have bp : p2.natAbs ≤ M.natAbs := by
    rw [hq]
    exact nab_le q0
  have g0 := gcd_ps (a := B) p20
  have d1 := Int.tdiv_mul_cancel (Int.gcd_dvd_left B p2)
  have d2 := Int.tdiv_mul_cancel (Int.gcd_dvd_right B p2)
  have gl := gcd_le (a := B) p20
  have cop := gcd_c (c := Int.gcd B p2) (by omega) d1.symm d2.symm (by omega)
  unfold mX1_add
  rw [gcd3 (by omega) (by omega) (by omega) (by omega), Option.bind_some, l6_0]
  rw [if_neg (fun w => p20 ((z6eq (by omega) (by omega) (by omega) (by omega)).1 w))]
  have ng : ¬ z6 (Int.gcd B p2 : Int) = z6 0 := fun w => by
    have := (z6eq (by omega) (by omega) (by omega) (by omega)).1 w
    omega
  rw [if_neg ng, if_neg ng, if_neg ng, z6d (by omega) (by omega) (by omega) (by omega), z6d (by omega) (by omega) (by omega) (by omega), z6m, z6m, z6a, z6m]
  generalize (Int.gcd B p2 : Int) = g at *
  generalize B.tdiv g = B1 at *
  generalize p2.tdiv g = r1 at *
  have r10 : r1 ≠ 0 := fun w => p20 (by rw [← d2, w, Int.zero_mul])
  have hc : B1 * c = r1 * q := by
    have : B1 * c * g = r1 * q * g := by
      have h1 : B1 * c * g = (B1 * g) * c := by grind
      have h2 : r1 * q * g = (r1 * g) * q := by grind
      rw [h1, h2, d1, d2, ← e2, hq]
    exact Int.eq_of_mul_eq_mul_right (by omega) this
  obtain ⟨k, hk⟩ : r1 ∣ c := icop (by rw [Int.gcd_comm]; exact cop) (m := B1) ⟨q, hc⟩
  have hqk : q = B1 * k := by
    have : q * r1 = B1 * k * r1 := by
      have h1 : B1 * k * r1 = B1 * (r1 * k) := by grind
      rw [h1, ← hk, hc, Int.mul_comm]
    exact Int.eq_of_mul_eq_mul_right r10 this
  have k0 : k ≠ 0 := fun w => c0 (by rw [hk, w, Int.mul_zero])
  have eM : M = B * r1 * k := by rw [e2, hk]; grind
  have eN : N + p1 * q = (T * r1 + p1 * B1) * k := by rw [e1, hk, hqk]; grind
  have den0 : B * r1 ≠ 0 := Int.mul_ne_zero (by omega) r10
  have bd : (B * r1).natAbs ≤ M.natAbs := by
    rw [eM]
    exact nab_le k0
  have bn : (T * r1 + p1 * B1).natAbs ≤ (N + p1 * q).natAbs := by
    rw [eN]
    exact nab_le k0
  rw [put3 (by omega) (by omega) (by omega) (by omega) den0, Option.bind_some]
  obtain ⟨u1, u2⟩ := rd_u (a := T * r1 + p1 * B1) (b := B * r1) (c := N + p1 * q) (d := M) den0 hM (by rw [eM, eN]; grind)
  rw [u1, u2]
