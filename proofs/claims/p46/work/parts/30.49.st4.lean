/-! Steps that only read: isMet, missed, weightSum, degreeOf, many. -/
theorem smz_j (f : Int → Int) {j : Int} (h : 0 ≤ j) : smz f (j + 1).toNat 0 = smz f j.toNat 0 + f j := by
  rw [show (j + 1).toNat = j.toNat + 1 by omega, smz_e, show (0 : Int) + (j.toNat : Int) = j by omega]
/-- 1 where a thing holds -/
noncomputable def chi (p : Prop) : Int := @ite Int p (Classical.propDecidable p) 1 0
theorem chi_y {p : Prop} (h : p) : chi p = 1 := if_pos h
theorem chi_n {p : Prop} (h : ¬ p) : chi p = 0 := if_neg h
/-- the degree of a table of coefficients -/
def dgz (f : Int → Int) (r : Int32) : Prop := (∃ p, 0 ≤ p ∧ p < 5 ∧ r = z3 p ∧ z6 (f p) ≠ 0 ∧ ∀ q, p < q → q < 5 → z6 (f q) = 0) ∨ (r = z3 (-1) ∧ ∀ q, 0 ≤ q → q < 5 → z6 (f q) = 0)
theorem dgz_u {f : Int → Int} {r r' : Int32} (h : dgz f r) (h' : dgz f r') : r = r' := by
  rcases h with ⟨p, p0, p1, e, n, k⟩ | ⟨e, k⟩
  · rcases h' with ⟨p', p0', p1', e', n', k'⟩ | ⟨e', k'⟩
    · rw [e, e']
      congr 1
      rcases Int.lt_trichotomy p p' with w | w | w
      · exact absurd (k p' w p1') n'
      · exact w
      · exact absurd (k' p w p1) n
    · exact absurd (k' p p0 p1) n
  · rcases h' with ⟨p', p0', p1', e', n', k'⟩ | ⟨e', k'⟩
    · exact absurd (k p' p0' p1') n'
    · rw [e, e']
theorem degree3 {fd fn : Nat → Int64} {fl : Int32} {f : Int → Int} (hf : E6 5 (if fl = 0 then fn else fd) f) : ∃ r, mX6_degreeOf fd fn fl = some r ∧ dgz f r := by
  obtain ⟨b, e, hb⟩ := rune (fun n j (_ : Unit) => lX6_degreeOf_2 fl fd fn n (z3 (4 - j))) (fun j _ => 0 ≤ j ∧ ∀ q, 4 - j < q → q < 5 → z6 (f q) = 0) (fun b : Nat × Int32 => (b.1 = 0 ∧ dgz f b.2) ∨ (b.1 = 1 ∧ dgz f (z3 (-1)))) 5
    (fun n j _ hj hp => by
      obtain ⟨p1, p2⟩ := hp
      have e := factor3 fl hf (p := 4 - j) (by omega) (by omega)
      try dsimp only
      rw [lX6_degreeOf_2, if_neg (fun w => by have := (z3lt (by omega) (by omega) (by omega) (by omega)).1 (l3_0 ▸ w); omega), e, Option.bind_some]
      by_cases c : z6 (f (4 - j)) = 0
      · rw [if_pos c]
        refine Or.inr ⟨(), ?_, by omega, fun q h1 h2 => ?_⟩
        · rw [show (-1 : Int32) = z3 (-1) from rfl, z3a, show (4 : Int) - j + -1 = 4 - (j + 1) by omega]
        · by_cases w : q = 4 - j
          · rw [w]
            exact c
          · exact p2 q (by omega) h2
      · rw [if_neg c]
        exact Or.inl ⟨_, rfl, Or.inl ⟨rfl, Or.inl ⟨4 - j, by omega, by omega, rfl, c, p2⟩⟩⟩)
    (fun n _ hp => by
      obtain ⟨p1, p2⟩ := hp
      try dsimp only
      rw [lX6_degreeOf_2, if_pos (by decide)]
      exact ⟨_, rfl, Or.inr ⟨rfl, Or.inr ⟨rfl, fun q h1 h2 => p2 q (by omega) h2⟩⟩⟩)
    5 FU 0 () (by omega) (by decide) ⟨by omega, fun q h1 h2 => by omega⟩
  have e : lX6_degreeOf_2 fl fd fn FU 4 = some b := e
  unfold mX6_degreeOf
  rw [e, Option.bind_some]
  rcases hb with ⟨b1, b2⟩ | ⟨b1, b2⟩
  · rw [if_pos b1]
    exact ⟨_, rfl, b2⟩
  · rw [if_neg (by omega)]
    exact ⟨_, rfl, b2⟩