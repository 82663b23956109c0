/-! Steps that only read: weight, coefficient, kindAt, value, about, isMet. -/
theorem gix {x : Int} {n : Nat} (h : 0 ≤ x) (h2 : x < n) (h3 : n ≤ 1000) : ¬ (z3 x < 0 ∨ n ≤ Int32.toNatClampNeg (z3 x)) := by
  rw [z3nat (by omega) (by omega), l3_0, z3lt (by omega) (by omega) (by omega) (by omega)]
  omega
/-- a loop that may leave early -/
theorem rune {α β : Type} (L : Nat → Int → α → Option β) (P : Int → α → Prop) (Q : β → Prop) (C : Int)
    (hs : ∀ (n : Nat) (j : Int) (a : α), j < C → P j a → (∃ b, L (n + 1) j a = some b ∧ Q b) ∨ ∃ a1, L (n + 1) j a = L n (j + 1) a1 ∧ P (j + 1) a1)
    (he : ∀ (n : Nat) (a : α), P C a → ∃ b, L (n + 1) C a = some b ∧ Q b) :
    ∀ (m n : Nat) (j : Int) (a : α), j + m = C → m < n → P j a → ∃ b, L n j a = some b ∧ Q b := by
  intro m
  induction m with
  | zero =>
    intro n j a h1 h2 h3
    obtain ⟨n, rfl⟩ : ∃ q, n = q + 1 := ⟨n - 1, by omega⟩
    have e : j = C := by omega
    subst e
    exact he n a h3
  | succ m ih =>
    intro n j a h1 h2 h3
    obtain ⟨n, rfl⟩ : ∃ q, n = q + 1 := ⟨n - 1, by omega⟩
    rcases hs n j a (by omega) h3 with h | ⟨a1, e1, e2⟩
    · exact h
    · rw [e1]
      exact ih n (j + 1) a1 (by omega) (by omega) e2
theorem Tz_n {fl : Int32} (h : ¬ fl = 0) (wt Y : Int → Int) : Tz fl wt Y = Tz 1 wt Y := funext fun _ => (if_neg h).trans (if_neg (by decide)).symm
theorem Crv.fl {C : Int} {X Y wt : Int → Int} {fd fn : Nat → Int64} (h : Crv C X Y wt fd fn) (fl : Int32) : E6 5 (if fl = 0 then fn else fd) (cfz X (Tz fl wt Y) C.toNat C.toNat) := by
  by_cases w : fl = 0
  · subst w
    exact h.2
  · rw [if_neg w, Tz_n w]
    exact h.1