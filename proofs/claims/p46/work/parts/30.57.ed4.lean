/-! Edits: undo, addPoint, removePoint. -/
section APP
variable {C v : Int} {X : Int → Int}
theorem En.a {b : Int} {f : Nat → Int32} (h : En b C f X) (b0 : 0 ≤ b) (c0 : 0 ≤ C) : En b (C + 1) (upd f (b + C).toNat (z3 v)) (uz X C v) := by
  intro k k0 k1
  unfold uz
  by_cases w : k = C
  · rw [w, upd_s, if_pos rfl]
  · rw [upd_n (by omega), if_neg w]
    exact h k k0 (by omega)
theorem Rz.a {lo hi : Int} (h : Rz C lo hi X) (h1 : lo ≤ v) (h2 : v ≤ hi) : Rz (C + 1) lo hi (uz X C v) := by
  intro k k0 k1
  unfold uz
  by_cases w : k = C
  · rw [if_pos w]
    omega
  · rw [if_neg w]
    exact h k k0 (by omega)
theorem Inj.a (h : Inj C X) (hf : Fre C X (-1) v) : Inj (C + 1) (uz X C v) := by
  intro j k j0 j1 k0 k1 e
  unfold uz at e
  by_cases w : j = C
  · by_cases w2 : k = C
    · omega
    · rw [if_pos w, if_neg w2] at e
      exact absurd e.symm (hf k k0 (by omega) (by omega))
  · by_cases w2 : k = C
    · rw [if_neg w, if_pos w2] at e
      exact absurd e (hf j j0 (by omega) (by omega))
    · rw [if_neg w, if_neg w2] at e
      exact h j k j0 (by omega) k0 (by omega) e
end APP
