/-! Reading the points on both sides; the place of a point; the order. -/
def En (b : Int) (C : Int) (f : Nat → Int32) (X : Int → Int) : Prop := ∀ k, 0 ≤ k → k < C → f (b + k).toNat = z3 (X k)
def Rz (C lo hi : Int) (X : Int → Int) : Prop := ∀ k, 0 ≤ k → k < C → lo ≤ X k ∧ X k ≤ hi
theorem fuel {n : Nat} (h : n < 2048) : n < FU := h
theorem yOfz {xs : Nat → Int32} {j : Int} (h1 : 0 ≤ j) (h2 : j < 5) : mX3_yOf xs (z3 j) = some (xs j.toNat) := by
  unfold mX3_yOf
  simp (disch := omega) only [l3_0, l3_1, l3_2, l3_3, l3_4, l3_5, l3_8, l3_9, l3_10, l3_12, l3_13, l3_14, l3_18, l3_19, l3_20, l3_24, l3_31, l3_32, l3_33, l3_45, l3_47, l3_48, l3_57, l3_58, l3_59, l3_63, l3_94, l3_97, l3_120, l3_122, l3_180, l3_200, l3_255, l3_320, l3_400, z3a, z3s, z3m, z3n, z3le, z3lt, z3eq, z3nat, z364, if_pos, if_neg]
theorem wOfz {xs : Nat → Int32} {j : Int} (h1 : 0 ≤ j) (h2 : j < 5) : mX3_wOf xs (z3 j) = some (xs j.toNat) := by
  unfold mX3_wOf
  simp (disch := omega) only [l3_0, l3_1, l3_2, l3_3, l3_4, l3_5, l3_8, l3_9, l3_10, l3_12, l3_13, l3_14, l3_18, l3_19, l3_20, l3_24, l3_31, l3_32, l3_33, l3_45, l3_47, l3_48, l3_57, l3_58, l3_59, l3_63, l3_94, l3_97, l3_120, l3_122, l3_180, l3_200, l3_255, l3_320, l3_400, z3a, z3s, z3m, z3n, z3le, z3lt, z3eq, z3nat, z364, if_pos, if_neg]
theorem En.z {C : Int} {f : Nat → Int32} {X : Int → Int} (h : En 0 C f X) {k : Int} (h1 : 0 ≤ k) (h2 : k < C) : f k.toNat = z3 (X k) := by
  have := h k h1 h2
  rwa [show (0 : Int) + k = k by omega] at this
section PLC
variable {C : Int} {X : Int → Int} {xs s : Nat → Int32}
theorem place3 (h0 : 0 ≤ C) (h5 : C ≤ 5) (hx : En 0 C xs X) (hr : Rz C (-9) 9 X) {k : Int} (k0 : 0 ≤ k) (k1 : k < C) : mX3_placeOf (z3 C) xs (z3 k) = some (z3 (plz C X k)) := by
  have H := runz (fun n j (a : Int) => lX3_placeOf_4 (z3 k) (z3 C) xs n (z3 a) (z3 j)) (fun j a => a + if X j < X k then 1 else 0) (fun j a => 0 ≤ j ∧ 0 ≤ a ∧ a ≤ j) C z3
    (fun n j a hj hp => by
      obtain ⟨p1, p2, p3⟩ := hp
      have e1 := hx.z p1 hj
      have e2 := hx.z k0 k1
      have r1 := hr j p1 hj
      have r2 := hr k k0 k1
      refine ⟨?_, by split <;> omega⟩
      simp (disch := omega) only [lX3_placeOf_4, l3_0, l3_1, l3_2, l3_3, l3_4, l3_5, l3_8, l3_9, l3_10, l3_12, l3_13, l3_14, l3_18, l3_19, l3_20, l3_24, l3_31, l3_32, l3_33, l3_45, l3_47, l3_48, l3_57, l3_58, l3_59, l3_63, l3_94, l3_97, l3_120, l3_122, l3_180, l3_200, l3_255, l3_320, l3_400, z3a, z3s, z3m, z3n, z3le, z3lt, z3eq, z3nat, z364, if_neg, xOfz, Option.bind_some, e1, e2]
      by_cases w : X j < X k
      · rw [if_neg (by omega), if_pos w]
      · rw [if_pos (by omega), if_neg w, show a + 0 = a by omega])
    (fun n a hp => by
      simp (disch := omega) only [lX3_placeOf_4, l3_0, l3_1, l3_2, l3_3, l3_4, l3_5, l3_8, l3_9, l3_10, l3_12, l3_13, l3_14, l3_18, l3_19, l3_20, l3_24, l3_31, l3_32, l3_33, l3_45, l3_47, l3_48, l3_57, l3_58, l3_59, l3_63, l3_94, l3_97, l3_120, l3_122, l3_180, l3_200, l3_255, l3_320, l3_400, z3a, z3s, z3m, z3n, z3le, z3lt, z3eq, z3nat, z364, if_pos])
    C.toNat FU 0 0 (by omega) (fuel (by omega)) (by omega)
  rw [itz_s] at H
  unfold mX3_placeOf
  rw [l3_0, H.1]
  show some (z3 (0 + smz _ _ _)) = _
  rw [Int.zero_add]
  rfl
end PLC
