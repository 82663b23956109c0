/-! Edits of one number: move, setValue, setWeight. -/
section PUT
variable {C x to : Int} {X : Int → Int} {xs s : Nat → Int32}
theorem putX3 (v : Int32) {k : Int} (h1 : 0 ≤ k) (h2 : k < 5) : mX3_putX xs (z3 k) v = some (upd xs k.toNat v) := by
  unfold mX3_putX
  rw [if_neg (fun w => by have := (z3lt (by omega) (by omega) (by omega) (by omega)).1 (l3_0 ▸ w); omega), if_neg (fun w => by have := (z3le (by omega) (by omega) (by omega) (by omega)).1 (l3_5 ▸ w); omega), if_neg (gix h1 (by omega) (by decide)), z3nat (by omega) (by omega)]
theorem putY3 (v : Int32) {k : Int} (h1 : 0 ≤ k) (h2 : k < 5) : mX3_putY xs (z3 k) v = some (upd xs k.toNat v) := by
  unfold mX3_putY
  rw [if_neg (fun w => by have := (z3lt (by omega) (by omega) (by omega) (by omega)).1 (l3_0 ▸ w); omega), if_neg (fun w => by have := (z3le (by omega) (by omega) (by omega) (by omega)).1 (l3_5 ▸ w); omega), if_neg (gix h1 (by omega) (by decide)), z3nat (by omega) (by omega)]
theorem putW3 (v : Int32) {k : Int} (h1 : 0 ≤ k) (h2 : k < 5) : mX3_putW xs (z3 k) v = some (upd xs k.toNat v) := by
  unfold mX3_putW
  rw [if_neg (fun w => by have := (z3lt (by omega) (by omega) (by omega) (by omega)).1 (l3_0 ▸ w); omega), if_neg (fun w => by have := (z3le (by omega) (by omega) (by omega) (by omega)).1 (l3_5 ▸ w); omega), if_neg (gix h1 (by omega) (by decide)), z3nat (by omega) (by omega)]
/-- one number set -/
def uz (X : Int → Int) (x v : Int) : Int → Int := fun k => if k = x then v else X k
theorem En.u {b : Int} {f : Nat → Int32} (h : En b C f X) (b0 : 0 ≤ b) (x0 : 0 ≤ x) (v : Int) : En b C (upd f (b + x).toNat (z3 v)) (uz X x v) := by
  intro k k0 k1
  unfold uz
  by_cases w : k = x
  · rw [w, upd_s, if_pos rfl]
  · rw [upd_n (by omega), if_neg w]
    exact h k k0 k1
theorem En.u0 {f : Nat → Int32} (h : En 0 C f X) (x0 : 0 ≤ x) (v : Int) : En 0 C (upd f x.toNat (z3 v)) (uz X x v) := by
  have := h.u (by omega) x0 v
  rwa [show (0 : Int) + x = x by omega] at this
theorem En.o {b : Int} {f : Nat → Int32} (h : En b C f X) {j : Nat} (v : Int32) (hj : ∀ k : Int, 0 ≤ k → k < C → (b + k).toNat ≠ j) : En b C (upd f j v) X := by
  intro k k0 k1
  rw [upd_n (hj k k0 k1)]
  exact h k k0 k1
theorem Rz.u {lo hi v : Int} (h : Rz C lo hi X) (h1 : lo ≤ v) (h2 : v ≤ hi) : Rz C lo hi (uz X x v) := by
  intro k k0 k1
  unfold uz
  split
  · omega
  · exact h k k0 k1
/-- no other point has this X -/
def Fre (C : Int) (X : Int → Int) (x to : Int) : Prop := ∀ k, 0 ≤ k → k < C → k ≠ x → X k ≠ to
theorem Inj.u (h : Inj C X) (hf : Fre C X x to) : Inj C (uz X x to) := by
  intro j k j0 j1 k0 k1 e
  unfold uz at e
  by_cases w : j = x
  · by_cases w2 : k = x
    · omega
    · rw [if_pos w, if_neg w2] at e
      exact absurd e.symm (hf k k0 k1 w2)
  · by_cases w2 : k = x
    · rw [if_neg w, if_pos w2] at e
      exact absurd e (hf j j0 j1 w)
    · rw [if_neg w, if_neg w2] at e
      exact h j k j0 j1 k0 k1 e
end PUT