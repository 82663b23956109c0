/-! How a step ends; the first steps. -/
/-- a loop up to where it may leave -/
theorem skipr {α β : Type} (L : Nat → Int → α → β) (P : Int → α → Prop) (t : Int)
    (hs : ∀ (n : Nat) (j : Int) (a : α), j < t → P j a → ∃ a1, L (n + 1) j a = L n (j + 1) a1 ∧ P (j + 1) a1) :
    ∀ (m n : Nat) (j : Int) (a : α), j + m = t → m < n → P j a → ∃ n1 a1, L n j a = L (n1 + 1) t a1 ∧ P t a1 := by
  intro m
  induction m with
  | zero =>
    intro n j a h1 h2 h3
    obtain ⟨n, rfl⟩ : ∃ q, n = q + 1 := ⟨n - 1, by omega⟩
    have e : j = t := by omega
    subst e
    exact ⟨n, a, rfl, h3⟩
  | succ m ih =>
    intro n j a h1 h2 h3
    obtain ⟨n, rfl⟩ : ∃ q, n = q + 1 := ⟨n - 1, by omega⟩
    obtain ⟨a1, e1, e2⟩ := hs n j a (by omega) h3
    rw [e1]
    exact ih n (j + 1) a1 (by omega) (by omega) e2
section FND
variable {C x : Int} {X : Int → Int} {xs s : Nat → Int32}
theorem find3_y (h0 : 0 ≤ C) (h5 : C ≤ 5) (hx : En 0 C xs X) (hr : Rz C (-9) 9 X) (hi : Inj C X) {k : Int} (k0 : 0 ≤ k) (k1 : k < C) (h : X k = x) : mX3_find (z3 C) xs (z3 x) = some (z3 k) := by
  have rk := hr k k0 k1
  obtain ⟨n, -, e, -⟩ := skipr (fun n j (_ : Unit) => lX3_find_2 (z3 x) (z3 C) xs n (z3 j)) (fun j _ => 0 ≤ j) k
    (fun n j _ hj hp => by
      have hp : 0 ≤ j := hp
      have e1 := hx.z hp (show j < C by omega)
      have r1 := hr j hp (by omega)
      have ne : X j ≠ x := fun w => by
        have := hi j k hp (by omega) k0 k1 (by omega)
        omega
      refine ⟨(), ?_, by omega⟩
      simp (disch := omega) only [lX3_find_2, l3_0, l3_1, l3_2, l3_3, l3_4, l3_5, l3_8, l3_9, l3_10, l3_12, l3_13, l3_14, l3_18, l3_19, l3_20, l3_24, l3_31, l3_32, l3_33, l3_45, l3_47, l3_48, l3_57, l3_58, l3_59, l3_63, l3_94, l3_97, l3_120, l3_122, l3_180, l3_200, l3_255, l3_320, l3_400, z3a, z3s, z3m, z3n, z3le, z3lt, z3eq, z3nat, z364, if_neg, xOfz, Option.bind_some, e1])
    k.toNat FU 0 () (by omega) (fuel (by omega)) (by omega)
  have e1 := hx.z k0 k1
  unfold mX3_find
  rw [l3_0, e]
  simp (disch := omega) only [lX3_find_2, l3_0, l3_1, l3_2, l3_3, l3_4, l3_5, l3_8, l3_9, l3_10, l3_12, l3_13, l3_14, l3_18, l3_19, l3_20, l3_24, l3_31, l3_32, l3_33, l3_45, l3_47, l3_48, l3_57, l3_58, l3_59, l3_63, l3_94, l3_97, l3_120, l3_122, l3_180, l3_200, l3_255, l3_320, l3_400, z3a, z3s, z3m, z3n, z3le, z3lt, z3eq, z3nat, z364, if_neg, if_pos, xOfz, Option.bind_some, e1]
  rfl
theorem find3_n (h0 : 0 ≤ C) (h5 : C ≤ 5) (hx : En 0 C xs X) (hr : Rz C (-9) 9 X) (h : ∀ k, 0 ≤ k → k < C → X k ≠ x) (x0 : -2147483648 ≤ x) (x1 : x < 2147483648) : mX3_find (z3 C) xs (z3 x) = some (-1) := by
  obtain ⟨n, -, e, -⟩ := skipr (fun n j (_ : Unit) => lX3_find_2 (z3 x) (z3 C) xs n (z3 j)) (fun j _ => 0 ≤ j) C
    (fun n j _ hj hp => by
      have hp : 0 ≤ j := hp
      have e1 := hx.z hp (show j < C by omega)
      have r1 := hr j hp (by omega)
      have ne : X j ≠ x := h j hp hj
      refine ⟨(), ?_, by omega⟩
      simp (disch := omega) only [lX3_find_2, l3_0, l3_1, l3_2, l3_3, l3_4, l3_5, l3_8, l3_9, l3_10, l3_12, l3_13, l3_14, l3_18, l3_19, l3_20, l3_24, l3_31, l3_32, l3_33, l3_45, l3_47, l3_48, l3_57, l3_58, l3_59, l3_63, l3_94, l3_97, l3_120, l3_122, l3_180, l3_200, l3_255, l3_320, l3_400, z3a, z3s, z3m, z3n, z3le, z3lt, z3eq, z3nat, z364, if_neg, xOfz, Option.bind_some, e1])
    C.toNat FU 0 () (by omega) (fuel (by omega)) (by omega)
  unfold mX3_find
  rw [l3_0, e]
  simp (disch := omega) only [lX3_find_2, z3le, if_pos, Option.bind_some]
  rfl
end FND
theorem z3m1 {k : Int} (k0 : 0 ≤ k) (k1 : k < 100) : ¬ z3 k = -1 := by
  rw [show (-1 : Int32) = z3 (-1) from rfl, z3eq (by omega) (by omega) (by omega) (by omega)]
  omega