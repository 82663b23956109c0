/-! Statements and the text. -/
section LOP
variable {len : Int} {f g : Nat → Int32} {bv : Int → Int}
theorem N7.m0 {a : AZ} {s : Nat → Int32} (h : N7 a s) (M D : Int) {s1 : Nat → Int32} (e0 : s1 0 = z3 M) (e1 : s1 1 = z3 D) (e : ∀ i : Nat, 2 ≤ i → s1 i = s i) : N7 (zC a, M, D, zX a, zY a, zW a) s1 := by
  obtain ⟨s0, s1', s2, hx, hy, hw⟩ := h
  refine ⟨e0, e1, (e 2 (by omega)).trans s2, hx.cg (fun k k0 k1 => e _ (by omega)), hy.cg (fun k k0 k1 => e _ (by omega)), hw.cg (fun k k0 k1 => e _ (by omega))⟩
abbrev T11 : Type := Int32 × Int32 × Int32 × Int32 × Int32 × Int32 × Int32 × Int32 × (Nat → Int32) × (Nat → Int32) × (Nat → Int32)
/-- both sides of a text -/
def LoG (A : Option T11) (B : Option T9) : Prop :=
  (∃ a n' st' tk' c d m ws xs ys n nr s sx tx w, OkZ a ∧ N3 a c d m ws xs ys ∧ N7 a s ∧ A = some (0, -1, n', st', tk', c, d, m, ws, xs, ys) ∧ B = some (1, 0, n, nr, -1, s, sx, tx, w)) ∨
  (∃ k0 q0 : Int, ∃ (r : T11) (r9 : T9), 1 ≤ k0 ∧ k0 ≤ 5 ∧ A = some r ∧ r.1 = z3 k0 ∧ r.2.1 = z3 q0 ∧ B = some r9 ∧ r9.1 = 0 ∧ r9.2.1 = z3 k0 ∧ r9.2.2.2.2.1 = z3 q0)
theorem lpe3 (n : Nat) (k fk fp nx st tk c d m : Int32) (ws xs ys : Nat → Int32) : lX5_read_29 (z3 len) f (n + 1) 0 k fk fp nx st tk c d m ws xs ys = some (fk, fp, nx, st, tk, c, d, m, ws, xs, ys) := by
  rw [lX5_read_29]
  by_cases h : 400 < k
  · rw [if_pos h]
  · rw [if_neg h, if_pos rfl]
end LOP
