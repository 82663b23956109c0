theorem suc5 {c i : Int32} (hc : five c) (h : ¬ i < 0) (h2 : ¬ c ≤ i) : (i + 1).toInt = i.toInt + 1 := by
  rcases i5 hc h h2 with rfl | rfl | rfl | rfl | rfl <;> decide
theorem placeOf_ends {c i : Int32} {xs s : Nat → Int32} (hc : five c) (hx : XsR c xs s) (hi : ¬ i < 0) (hi2 : ¬ c ≤ i) (n : Nat) : ∀ (a b : Int32), ¬ b < 0 → 1 ≤ n → c.toInt - b.toInt + 1 ≤ (n : Int) → ∃ r, lX3_placeOf_4 i c xs n a b = some r := by
  induction n with
  | zero => intro a b _ h1 _; exact absurd h1 (by decide)
  | succ n ih =>
    intro a b hb _ hn
    obtain ⟨e1, e2, -⟩ := xOf_eq hc hx hi hi2
    rw [lX3_placeOf_4]
    by_cases w : c ≤ b
    · exact ⟨a, if_pos w⟩
    · obtain ⟨f1, f2, f3⟩ := xOf_eq hc hx hb w
      have u := suc5 hc hb w
      have w1 := w
      rw [Int32.le_iff_toInt_le] at w1
      have n1 : 1 ≤ n := by omega
      have n2 : c.toInt - (b + 1).toInt + 1 ≤ (n : Int) := by omega
      rw [if_neg w, f1, e1]
      show ∃ r, (if s (Int32.toNatClampNeg (3 + i)) ≤ s (Int32.toNatClampNeg (3 + b)) then lX3_placeOf_4 i c xs n a (b + 1) else lX3_placeOf_4 i c xs n (a + 1) (b + 1)) = some r
      obtain ⟨r1, hr1⟩ := ih a (b + 1) f3 n1 n2
      obtain ⟨r2, hr2⟩ := ih (a + 1) (b + 1) f3 n1 n2
      rw [hr1, hr2]
      by_cases y : s (Int32.toNatClampNeg (3 + i)) ≤ s (Int32.toNatClampNeg (3 + b))
      · exact ⟨r1, if_pos y⟩
      · exact ⟨r2, if_neg y⟩
theorem placeOf_eq {c i : Int32} {xs s : Nat → Int32} (hc : five c) (hs : s 2 = c) (hx : XsR c xs s) (hi : ¬ i < 0) (hi2 : ¬ c ≤ i) : ∃ r, mX3_placeOf c xs i = some r ∧ mX7_placeOf s i = some r := by
  have z : (0 : Int32).toInt = 0 := by decide
  have a := five5 hc
  have f : (FU : Int) = 2048 := rfl
  obtain ⟨r, hr⟩ := placeOf_ends hc hx hi hi2 FU 0 0 (by decide) (by decide) (by omega)
  refine ⟨r, ?_, ?_⟩
  · show ((lX3_placeOf_4 i c xs FU 0 0).bind fun r6 => some r6) = some r
    rw [hr]
    rfl
  · show ((lX7_placeOf_4 i s FU 0 0).bind fun r7 => some r7) = some r
    rw [← placeOf_loop hc hs hx hi hi2 FU 0 0 (by decide), hr]
    rfl
