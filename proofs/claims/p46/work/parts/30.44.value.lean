/-! The kind and the value at a whole number, on both sides. -/
theorem Tz1 (wt Y : Int → Int) : Tz 1 wt Y = wt := funext fun _ => if_neg (by decide)
theorem Tz0 (wt Y : Int → Int) : Tz 0 wt Y = fun k => wt k * Y k := funext fun _ => if_pos rfl
def nmv (C : Int) (X Y wt : Int → Int) (x : Int) (fl : Int32) : Int := plv X (Tz fl wt Y) C.toNat C.toNat x
def smv (C : Int) (X Y wt : Int → Int) (x : Int) (fl : Int32) : Int := dlv X (Tz fl wt Y) C.toNat C.toNat x
def kiz (C : Int) (X Y wt : Int → Int) (x : Int) : Int := knz (nmv C X Y wt x 0) (nmv C X Y wt x 1) (smv C X Y wt x 1)
def vT (C : Int) (X Y wt : Int → Int) (x : Int) : Int := if nmv C X Y wt x 1 = 0 then rdT (smv C X Y wt x 0) (smv C X Y wt x 1) else rdT (nmv C X Y wt x 0) (nmv C X Y wt x 1)
def vB (C : Int) (X Y wt : Int → Int) (x : Int) : Int := if nmv C X Y wt x 1 = 0 then rdB (smv C X Y wt x 0) (smv C X Y wt x 1) else rdB (nmv C X Y wt x 0) (nmv C X Y wt x 1)
def Crv (C : Int) (X Y wt : Int → Int) (fd fn : Nat → Int64) : Prop := E6 5 fd (cfz X (Tz 1 wt Y) C.toNat C.toNat) ∧ E6 5 fn (cfz X (Tz 0 wt Y) C.toNat C.toNat)
theorem rd_b {a b : Int} (hb : b ≠ 0) : (rdT a b).natAbs ≤ a.natAbs ∧ (rdB a b).natAbs ≤ b.natAbs ∧ 0 < rdB a b := by
  have g1 := gcd_le (a := a) hb
  have g2 := gcd_ps (a := a) hb
  have t1 := Int.natAbs_tdiv_le_natAbs a (Int.gcd a b)
  have t2 := Int.natAbs_tdiv_le_natAbs b (Int.gcd a b)
  have d : (Int.gcd a b : Int) ∣ b := Int.gcd_dvd_right a b
  have e := Int.tdiv_mul_cancel d
  unfold rdT rdB
  by_cases w : 0 ≤ b
  · rw [if_pos w, if_pos w]
    refine ⟨t1, t2, ?_⟩
    rcases Int.lt_trichotomy 0 (b.tdiv (Int.gcd a b)) with q | q | q
    · exact q
    · rw [← q, Int.zero_mul] at e
      omega
    · have := Int.mul_lt_mul_of_pos_right q g2
      omega
  · rw [if_neg w, if_neg w, Int.tdiv_neg, Int.tdiv_neg]
    refine ⟨by omega, by omega, ?_⟩
    rcases Int.lt_trichotomy 0 (b.tdiv (Int.gcd a b)) with q | q | q
    · have := Int.mul_pos q g2
      omega
    · rw [← q, Int.zero_mul] at e
      omega
    · omega
section VAL
variable {C x : Int} {X Y wt : Int → Int} {fd fn : Nat → Int64} {s : Nat → Int32} {w : Nat → Int64}
theorem nmv_b (h0 : 0 ≤ C) (h5 : C ≤ 5) (hr : Rz C (-9) 9 X) (hry : Rz C (-20) 20 Y) (hb : Bw C wt) (x0 : -12 ≤ x) (x1 : x ≤ 12) (fl : Int32) : (nmv C X Y wt x fl).natAbs ≤ 124026212545200000 ∧ (smv C X Y wt x fl).natAbs ≤ 124026212545200000 := plv_b h0 h5 hr hry hb x0 x1 fl
theorem atD (h0 : 0 ≤ C) (h5 : C ≤ 5) (hc : Crv C X Y wt fd fn) (x0 : -100 ≤ x) (x1 : x ≤ 100) : mX0_at fd fn 1 (z3 x) = some (z6 (nmv C X Y wt x 1)) := by
  have := at3 (fd := fd) (fn := fn) 1 (f := cfz X (Tz 1 wt Y) C.toNat C.toNat) (by rw [if_neg (by decide)]; exact hc.1) x0 x1
  rw [(cfz_v X (Tz 1 wt Y) C.toNat x (by omega) C.toNat (by omega)).1] at this
  exact this
theorem atN (h0 : 0 ≤ C) (h5 : C ≤ 5) (hc : Crv C X Y wt fd fn) (x0 : -100 ≤ x) (x1 : x ≤ 100) : mX0_at fd fn 0 (z3 x) = some (z6 (nmv C X Y wt x 0)) := by
  have := at3 (fd := fd) (fn := fn) 0 (f := cfz X (Tz 0 wt Y) C.toNat C.toNat) (by rw [if_pos rfl]; exact hc.2) x0 x1
  rw [(cfz_v X (Tz 0 wt Y) C.toNat x (by omega) C.toNat (by omega)).1] at this
  exact this
theorem datD (h0 : 0 ≤ C) (h5 : C ≤ 5) (hc : Crv C X Y wt fd fn) (x0 : -100 ≤ x) (x1 : x ≤ 100) : mX0_derivativeAt fd fn 1 (z3 x) = some (z6 (smv C X Y wt x 1)) := by
  have := dat3 (fd := fd) (fn := fn) 1 (f := cfz X (Tz 1 wt Y) C.toNat C.toNat) (by rw [if_neg (by decide)]; exact hc.1) x0 x1
  rw [(cfz_v X (Tz 1 wt Y) C.toNat x (by omega) C.toNat (by omega)).2] at this
  exact this
theorem datN (h0 : 0 ≤ C) (h5 : C ≤ 5) (hc : Crv C X Y wt fd fn) (x0 : -100 ≤ x) (x1 : x ≤ 100) : mX0_derivativeAt fd fn 0 (z3 x) = some (z6 (smv C X Y wt x 0)) := by
  have := dat3 (fd := fd) (fn := fn) 0 (f := cfz X (Tz 0 wt Y) C.toNat C.toNat) (by rw [if_pos rfl]; exact hc.2) x0 x1
  rw [(cfz_v X (Tz 0 wt Y) C.toNat x (by omega) C.toNat (by omega)).2] at this
  exact this
theorem kind3 (h0 : 0 ≤ C) (h5 : C ≤ 5) (hr : Rz C (-9) 9 X) (hry : Rz C (-20) 20 Y) (hb : Bw C wt) (hc : Crv C X Y wt fd fn) (x0 : -12 ≤ x) (x1 : x ≤ 12) : mX0_kindOf fd fn (z3 x) = some (z3 (kiz C X Y wt x)) := by
  have b0 := nmv_b h0 h5 hr hry hb x0 x1 0
  have b1 := nmv_b h0 h5 hr hry hb x0 x1 1
  unfold mX0_kindOf kiz knz
  rw [atD h0 h5 hc (by omega) (by omega), Option.bind_some, l6_0]
  by_cases e1 : nmv C X Y wt x 1 = 0
  · rw [if_pos (by rw [e1]), if_pos e1, atN h0 h5 hc (by omega) (by omega), Option.bind_some]
    by_cases e2 : nmv C X Y wt x 0 = 0
    · rw [if_pos (by rw [e2]), if_pos e2, datD h0 h5 hc (by omega) (by omega), Option.bind_some]
      by_cases e3 : smv C X Y wt x 1 = 0
      · rw [if_pos (by rw [e3]), if_pos e3]
        rfl
      · rw [if_neg (fun q => e3 ((z6eq (by omega) (by omega) (by omega) (by omega)).1 q)), if_neg e3]
        rfl
    · rw [if_neg (fun q => e2 ((z6eq (by omega) (by omega) (by omega) (by omega)).1 q)), if_neg e2]
      rfl
  · rw [if_neg (fun q => e1 ((z6eq (by omega) (by omega) (by omega) (by omega)).1 q)), if_neg e1]
    rfl
theorem kiz_c (C : Int) (X Y wt : Int → Int) (x : Int) : (kiz C X Y wt x = 0 ∧ nmv C X Y wt x 1 ≠ 0) ∨ (kiz C X Y wt x = 1 ∧ nmv C X Y wt x 1 = 0 ∧ smv C X Y wt x 1 ≠ 0) ∨ kiz C X Y wt x = 2 ∨ kiz C X Y wt x = 3 := by
  unfold kiz knz
  by_cases e1 : nmv C X Y wt x 1 = 0
  · rw [if_pos e1]
    by_cases e2 : nmv C X Y wt x 0 = 0
    · rw [if_pos e2]
      by_cases e3 : smv C X Y wt x 1 = 0
      · rw [if_pos e3]
        exact Or.inr (Or.inr (Or.inr rfl))
      · rw [if_neg e3]
        exact Or.inr (Or.inl ⟨rfl, e1, e3⟩)
    · rw [if_neg e2]
      exact Or.inr (Or.inr (Or.inl rfl))
  · rw [if_neg e1]
    exact Or.inl ⟨rfl, e1⟩
theorem put3y (h0 : 0 ≤ C) (h5 : C ≤ 5) (hr : Rz C (-9) 9 X) (hry : Rz C (-20) 20 Y) (hb : Bw C wt) (hc : Crv C X Y wt fd fn) (x0 : -12 ≤ x) (x1 : x ≤ 12) (hk : kiz C X Y wt x ≤ 1) (u v : Int64) : mX0_putValue fd fn u v (z3 x) = some (1, z6 (vB C X Y wt x), z6 (vT C X Y wt x)) := by
  have b0 := nmv_b h0 h5 hr hry hb x0 x1 0
  have b1 := nmv_b h0 h5 hr hry hb x0 x1 1
  unfold mX0_putValue
  rw [kind3 h0 h5 hr hry hb hc x0 x1, Option.bind_some]
  rcases kiz_c C X Y wt x with ⟨k, e⟩ | ⟨k, e, e2⟩ | k | k
  · have g : z3 (kiz C X Y wt x) = 0 := by rw [k]; rfl
    rw [g, if_pos rfl, atD h0 h5 hc (by omega) (by omega), atN h0 h5 hc (by omega) (by omega), Option.bind_some, Option.bind_some, put3 (by omega) (by omega) (by omega) (by omega) e]
    unfold vB vT
    rw [if_neg e, if_neg e]
    rfl
  · have g : z3 (kiz C X Y wt x) = 1 := by rw [k]; rfl
    rw [g, if_neg (by decide), if_pos rfl, datD h0 h5 hc (by omega) (by omega), datN h0 h5 hc (by omega) (by omega), Option.bind_some, Option.bind_some, put3 (by omega) (by omega) (by omega) (by omega) e2]
    unfold vB vT
    rw [if_pos e, if_pos e]
    rfl
  · omega
  · omega
theorem put3n (h0 : 0 ≤ C) (h5 : C ≤ 5) (hr : Rz C (-9) 9 X) (hry : Rz C (-20) 20 Y) (hb : Bw C wt) (hc : Crv C X Y wt fd fn) (x0 : -12 ≤ x) (x1 : x ≤ 12) (hk : ¬ kiz C X Y wt x ≤ 1) (u v : Int64) : mX0_putValue fd fn u v (z3 x) = some (0, u, v) := by
  unfold mX0_putValue
  rw [kind3 h0 h5 hr hry hb hc x0 x1, Option.bind_some]
  rcases kiz_c C X Y wt x with ⟨k, e⟩ | ⟨k, e, e2⟩ | k | k
  · omega
  · omega
  · rw [k]
    rfl
  · rw [k]
    rfl
end VAL
