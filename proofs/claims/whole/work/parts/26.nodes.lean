def XsR (c : Int32) (xs s : Nat → Int32) : Prop := (¬ c ≤ 0 → xs 0 = s 3) ∧ (¬ c ≤ 1 → xs 1 = s 4) ∧ (¬ c ≤ 2 → xs 2 = s 5) ∧ (¬ c ≤ 3 → xs 3 = s 6) ∧ (¬ c ≤ 4 → xs 4 = s 7)
theorem five5 {c : Int32} (hc : five c) : c.toInt ≤ 5 := by
  rcases hc with rfl | rfl | rfl | rfl | rfl | rfl <;> decide
theorem i5 {c i : Int32} (hc : five c) (h : ¬ i < 0) (h2 : ¬ c ≤ i) : i = 0 ∨ i = 1 ∨ i = 2 ∨ i = 3 ∨ i = 4 := by
  rw [Int32.lt_iff_toInt_lt] at h
  rw [Int32.le_iff_toInt_le] at h2
  have z : (0 : Int32).toInt = 0 := by decide
  rw [z] at h
  have a := five5 hc
  have b : i.toInt = 0 ∨ i.toInt = 1 ∨ i.toInt = 2 ∨ i.toInt = 3 ∨ i.toInt = 4 := by omega
  rcases b with b | b | b | b | b
  · exact Or.inl (Int32.toInt_inj.1 (b.trans (by decide)))
  · exact Or.inr (Or.inl (Int32.toInt_inj.1 (b.trans (by decide))))
  · exact Or.inr (Or.inr (Or.inl (Int32.toInt_inj.1 (b.trans (by decide)))))
  · exact Or.inr (Or.inr (Or.inr (Or.inl (Int32.toInt_inj.1 (b.trans (by decide))))))
  · exact Or.inr (Or.inr (Or.inr (Or.inr (Int32.toInt_inj.1 (b.trans (by decide))))))
theorem xOf_eq {c i : Int32} {xs s : Nat → Int32} (hc : five c) (hx : XsR c xs s) (h : ¬ i < 0) (h2 : ¬ c ≤ i) : mX3_xOf xs i = some (s (Int32.toNatClampNeg (3 + i))) ∧ ¬ ((3 + i) < 0 ∨ 18 ≤ Int32.toNatClampNeg (3 + i)) ∧ ¬ (i + 1) < 0 := by
  rcases i5 hc h h2 with rfl | rfl | rfl | rfl | rfl
  · exact ⟨(show mX3_xOf xs 0 = some (xs 0) from rfl).trans (congrArg some (hx.1 h2)), by decide, by decide⟩
  · exact ⟨(show mX3_xOf xs 1 = some (xs 1) from rfl).trans (congrArg some (hx.2.1 h2)), by decide, by decide⟩
  · exact ⟨(show mX3_xOf xs 2 = some (xs 2) from rfl).trans (congrArg some (hx.2.2.1 h2)), by decide, by decide⟩
  · exact ⟨(show mX3_xOf xs 3 = some (xs 3) from rfl).trans (congrArg some (hx.2.2.2.1 h2)), by decide, by decide⟩
  · exact ⟨(show mX3_xOf xs 4 = some (xs 4) from rfl).trans (congrArg some (hx.2.2.2.2 h2)), by decide, by decide⟩
theorem placeOf_loop {c i : Int32} {xs s : Nat → Int32} (hc : five c) (hs : s 2 = c) (hx : XsR c xs s) (hi : ¬ i < 0) (hi2 : ¬ c ≤ i) (n : Nat) : ∀ (a b : Int32), ¬ b < 0 → lX3_placeOf_4 i c xs n a b = lX7_placeOf_4 i s n a b := by
  induction n with
  | zero => intro a b _; rfl
  | succ n ih =>
    intro a b hb
    have g : ¬ ((2 : Int32) < 0 ∨ 18 ≤ Int32.toNatClampNeg 2) := by decide
    obtain ⟨e1, e2, -⟩ := xOf_eq hc hx hi hi2
    rw [lX3_placeOf_4, lX7_placeOf_4, if_neg g, show s (Int32.toNatClampNeg 2) = c from hs]
    by_cases w : c ≤ b
    · rw [if_pos w, if_pos w]
    · obtain ⟨f1, f2, f3⟩ := xOf_eq hc hx hb w
      rw [if_neg w, if_neg w, if_neg f2, if_neg e2, f1, e1]
      show (if s (Int32.toNatClampNeg (3 + i)) ≤ s (Int32.toNatClampNeg (3 + b)) then lX3_placeOf_4 i c xs n a (b + 1) else lX3_placeOf_4 i c xs n (a + 1) (b + 1)) = _
      rw [ih a (b + 1) f3, ih (a + 1) (b + 1) f3]
