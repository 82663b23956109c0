/-! Statements of a text. -/
theorem l3_9z : (9 : Int32) = z3 9 := rfl
theorem l3_20z : (20 : Int32) = z3 20 := rfl
def fke (t : Int) : Int := if t = 1 then 1 else 2
theorem cc4 : z3 (ctk 4) = 4 := rfl
theorem fke_b (t : Int) : 1 ≤ fke t ∧ fke t ≤ 5 := by
  unfold fke
  split <;> omega
/-- an appended point -/
def apd (a : AZ) (x y w : Int) : AZ := (zC a + 1, zM a, zD a, uz (zX a) (zC a) x, uz (zY a) (zC a) y, uz (zW a) (zC a) w)
theorem OkZ.ap {a : AZ} (hO : OkZ a) (h5 : zC a < 5) {x y w : Int} (hf : Fre (zC a) (zX a) (-1) x) (x0 : -9 ≤ x) (x1 : x ≤ 9) (y0 : -20 ≤ y) (y1 : y ≤ 20) (w0 : -9 ≤ w) (w1 : w ≤ 9) : OkZ (apd a x y w) := by
  obtain ⟨h0, _, m0, m1, d0, d1, hr, hry, hrw, hi⟩ := hO
  exact ⟨by show 0 ≤ zC a + 1; omega, by show zC a + 1 ≤ 5; omega, m0, m1, d0, d1, hr.a x0 x1, hry.a y0 y1, hrw.a w0 w1, hi.a hf⟩
theorem N3.ap {a : AZ} {c d m : Int32} {ws xs ys : Nat → Int32} (h0 : 0 ≤ zC a) (h : N3 a c d m ws xs ys) (x y w : Int) : N3 (apd a x y w) (z3 (zC a + 1)) d m (upd ws (zC a).toNat (z3 w)) (upd xs (zC a).toNat (z3 x)) (upd ys (zC a).toNat (z3 y)) := by
  obtain ⟨hc, hd, hm, hw, hx, hy⟩ := h
  have hx' := hx.a (v := x) (Int.le_refl 0) h0
  have hy' := hy.a (v := y) (Int.le_refl 0) h0
  have hw' := hw.a (v := w) (Int.le_refl 0) h0
  rw [show (0 : Int) + zC a = zC a by omega] at hx' hy' hw'
  exact ⟨rfl, hd, hm, hw', hx', hy'⟩
theorem En.cg {b C : Int} {X : Int → Int} {f f2 : Nat → Int32} (h : En b C f X) (e : ∀ k : Int, 0 ≤ k → k < C → f2 (b + k).toNat = f (b + k).toNat) : En b C f2 X := fun k k0 k1 => (e k k0 k1).trans (h k k0 k1)
theorem En.a2 {b C v : Int} {X : Int → Int} {f f2 : Nat → Int32} (h : En b C f X) (b0 : 0 ≤ b) (c0 : 0 ≤ C) (e : ∀ k : Int, 0 ≤ k → k < C → f2 (b + k).toNat = f (b + k).toNat) (ev : f2 (b + C).toNat = z3 v) : En b (C + 1) f2 (uz X C v) := by
  refine (h.a (v := v) b0 c0).cg (fun k k0 k1 => ?_)
  by_cases w : k = C
  · rw [w, upd_s, ev]
  · rw [upd_n (by omega)]
    exact e k k0 (by omega)
theorem N7.ap {a : AZ} {s s1 : Nat → Int32} (h : N7 a s) (h0 : 0 ≤ zC a) (h5 : zC a < 5) {x y w : Int} (e : ∀ i : Nat, i ≠ 2 → i ≠ (3 + zC a).toNat → i ≠ (8 + zC a).toNat → i ≠ (13 + zC a).toNat → s1 i = s i) (e2 : s1 2 = z3 (zC a + 1)) (ex : s1 (3 + zC a).toNat = z3 x) (ey : s1 (8 + zC a).toNat = z3 y) (ew : s1 (13 + zC a).toNat = z3 w) : N7 (apd a x y w) s1 := by
  obtain ⟨s0, s1', s2, hx, hy, hw⟩ := h
  refine ⟨?_, ?_, e2, ?_, ?_, ?_⟩
  · rw [e 0 (by omega) (by omega) (by omega) (by omega)]
    exact s0
  · rw [e 1 (by omega) (by omega) (by omega) (by omega)]
    exact s1'
  · exact hx.a2 (by omega) h0 (fun k k0 k1 => e _ (by omega) (by omega) (by omega) (by omega)) ex
  · exact hy.a2 (by omega) h0 (fun k k0 k1 => e _ (by omega) (by omega) (by omega) (by omega)) ey
  · exact hw.a2 (by omega) h0 (fun k k0 k1 => e _ (by omega) (by omega) (by omega) (by omega)) ew
abbrev T12 : Type := Int32 × Int32 × Int32 × Int32 × Int32 × Int32 × Int32 × Int32 × Int32 × (Nat → Int32) × (Nat → Int32) × (Nat → Int32)
abbrev T9 : Type := Int32 × Int32 × Int32 × Int32 × Int32 × (Nat → Int32) × Int32 × Int32 × Int32
section STG
variable {len : Int} {f g : Nat → Int32} {p t st nx v : Int}
theorem z3k {k : Int} (h1 : 1 ≤ k) (h2 : k ≤ 3) : ¬ z3 k = 0 := fun w => by
  have := (z3eq (by omega) (by omega) (by omega) (by omega)).1 (Eq.trans w l3_0)
  omega
end STG
