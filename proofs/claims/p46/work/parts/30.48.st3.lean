/-! Steps that only read: value, isMet, missed, weightSum, degreeOf. -/
theorem n10 : ¬ (1 : Int32) = 0 := by decide
theorem part3 (b t : Int64) {y : Int} (h : 0 ≤ y ∧ y ≤ 1) : mX1_part b t (z3 y) = some (if y = 0 then t else b) := by
  have : y = 0 ∨ y = 1 := by omega
  rcases this with rfl | rfl <;> rfl
section NVS
variable {C x : Int} {X Y wt : Int → Int} {fd fn : Nat → Int64}
theorem nv_y (h0 : 0 ≤ C) (h5 : C ≤ 5) (hr : Rz C (-9) 9 X) (hry : Rz C (-20) 20 Y) (hb : Bw C wt) (hc : Crv C X Y wt fd fn) (x0 : -12 ≤ x) (x1 : x ≤ 12) (hk : kiz C X Y wt x ≤ 1) (u v : Int64) : mX6_needValue u v fd fn (z3 x) = some (0, z6 (vB C X Y wt x), z6 (vT C X Y wt x)) := by
  unfold mX6_needValue
  rw [put3y h0 h5 hr hry hb hc x0 x1 hk]
  rfl
theorem nv_n (h0 : 0 ≤ C) (h5 : C ≤ 5) (hr : Rz C (-9) 9 X) (hry : Rz C (-20) 20 Y) (hb : Bw C wt) (hc : Crv C X Y wt fd fn) (x0 : -12 ≤ x) (x1 : x ≤ 12) (hk : ¬ kiz C X Y wt x ≤ 1) (u v : Int64) : mX6_needValue u v fd fn (z3 x) = some (4, u, v) := by
  unfold mX6_needValue
  rw [put3n h0 h5 hr hry hb hc x0 x1 hk]
  rfl
end NVS
/-- whether a point is met -/
def metz (C : Int) (X Y wt : Int → Int) (k : Int) : Prop := kiz C X Y wt (X k) ≤ 1 ∧ vT C X Y wt (X k) = Y k ∧ vB C X Y wt (X k) = 1
theorem v_b {C x : Int} {X Y wt : Int → Int} (h0 : 0 ≤ C) (h5 : C ≤ 5) (hr : Rz C (-9) 9 X) (hry : Rz C (-20) 20 Y) (hb : Bw C wt) (x0 : -12 ≤ x) (x1 : x ≤ 12) (hk : kiz C X Y wt x ≤ 1) : (vT C X Y wt x).natAbs ≤ 124026212545200000 ∧ 0 < vB C X Y wt x ∧ vB C X Y wt x ≤ 124026212545200000 := by
  have b0 := nmv_b h0 h5 hr hry hb x0 x1 0
  have b1 := nmv_b h0 h5 hr hry hb x0 x1 1
  unfold vT vB
  rcases kiz_c C X Y wt x with ⟨k, e⟩ | ⟨k, e, e2⟩ | k | k
  · have := rd_b (a := nmv C X Y wt x 0) e
    rw [if_neg e, if_neg e]
    omega
  · have := rd_b (a := smv C X Y wt x 0) e2
    rw [if_pos e, if_pos e]
    omega
  · omega
  · omega
section MET
variable {a : AZ}
theorem meets3 {k : Int} {xs ys : Nat → Int32} {den num : Nat → Int64} (hO : OkZ a) (hx : En 0 (zC a) xs (zX a)) (hy : En 0 (zC a) ys (zY a)) (hv : Crv (zC a) (zX a) (zY a) (zw a) den num) (k0 : 0 ≤ k) (k1 : k < zC a) (b t : Int64) :
    (metz (zC a) (zX a) (zY a) (zw a) k → ∃ b1 t1, mX6_meets b t den xs ys num (z3 k) = some (1, b1, t1)) ∧ (¬ metz (zC a) (zX a) (zY a) (zw a) k → ∃ b1 t1, mX6_meets b t den xs ys num (z3 k) = some (0, b1, t1)) := by
  have hb := hO.bw
  obtain ⟨h0, h5, m0, m1, d0, d1, hr, hry, hrw, hi⟩ := hO
  have ex := hx.z k0 k1
  have ey := hy.z k0 k1
  have rx := hr k k0 k1
  have ry := hry k k0 k1
  have hU : mX6_meets b t den xs ys num (z3 k) = (mX0_putValue den num b t (z3 (zX a k))).bind fun r2 => if r2.1 = 0 then some (0, r2.2.1, r2.2.2) else (mX1_part r2.2.1 r2.2.2 1).bind fun r4 => if r4 = 1 then (mX1_part r2.2.1 r2.2.2 0).bind fun r6 => (mX3_yOf ys (z3 k)).bind fun r7 => if r6 = (Int32.toInt64 r7) then some (1, r2.2.1, r2.2.2) else some (0, r2.2.1, r2.2.2) else some (0, r2.2.1, r2.2.2) := by
    unfold mX6_meets
    rw [xOfz k0 (by omega), Option.bind_some, ex]
  rw [hU]
  by_cases c : kiz (zC a) (zX a) (zY a) (zw a) (zX a k) ≤ 1
  · have vb := v_b h0 h5 hr hry hb (x := zX a k) (by omega) (by omega) c
    rw [put3y h0 h5 hr hry hb hv (by omega) (by omega) c, Option.bind_some, if_neg n10]
    show (_ → ∃ b1 t1, (if z6 (vB (zC a) (zX a) (zY a) (zw a) (zX a k)) = 1 then (mX3_yOf ys (z3 k)).bind fun r7 => if z6 (vT (zC a) (zX a) (zY a) (zw a) (zX a k)) = (Int32.toInt64 r7) then some (1, _, _) else some (0, _, _) else some (0, _, _)) = _) ∧ (_ → ∃ b1 t1, (if z6 (vB (zC a) (zX a) (zY a) (zw a) (zX a k)) = 1 then (mX3_yOf ys (z3 k)).bind fun r7 => if z6 (vT (zC a) (zX a) (zY a) (zw a) (zX a k)) = (Int32.toInt64 r7) then some (1, _, _) else some (0, _, _) else some (0, _, _)) = _)
    rw [yOfz k0 (by omega), Option.bind_some, ey, z364 (by omega) (by omega)]
    by_cases c2 : vB (zC a) (zX a) (zY a) (zw a) (zX a k) = 1
    · rw [if_pos (by rw [c2]; rfl)]
      by_cases c3 : vT (zC a) (zX a) (zY a) (zw a) (zX a k) = zY a k
      · rw [if_pos (by rw [c3])]
        exact ⟨fun _ => ⟨_, _, rfl⟩, fun w => absurd ⟨c, c3, c2⟩ w⟩
      · rw [if_neg (fun w => c3 ((z6eq (by omega) (by omega) (by omega) (by omega)).1 w))]
        exact ⟨fun w => absurd w.2.1 c3, fun _ => ⟨_, _, rfl⟩⟩
    · rw [if_neg (fun w => c2 ((z6eq (by omega) (by omega) (by omega) (by omega)).1 (w.trans l6_1)))]
      exact ⟨fun w => absurd w.2.2 c2, fun _ => ⟨_, _, rfl⟩⟩
  · rw [put3n h0 h5 hr hry hb hv (by omega) (by omega) c, Option.bind_some, if_pos rfl]
    exact ⟨fun w => absurd w.1 c, fun _ => ⟨_, _, rfl⟩⟩
end MET
