/-! What would be: valueIf, valueWithout. -/
theorem upd_b (s : Nat → Int32) (i : Nat) (v : Int32) : upd (upd s i v) i (s i) = s := by
  funext j
  by_cases w : j = i
  · rw [w, upd_s]
  · rw [upd_n w, upd_n w]
/-- with a point moved -/
def mvd (a : AZ) (k to : Int) : AZ := (zC a, zM a, zD a, uz (zX a) k to, zY a, zW a)
theorem OkZ.mv {a : AZ} (hO : OkZ a) {k to : Int} (t0 : -9 ≤ to) (t1 : to ≤ 9) (hf : Fre (zC a) (zX a) k to) : OkZ (mvd a k to) := by
  obtain ⟨h0, h5, m0, m1, d0, d1, hr, hry, hrw, hi⟩ := hO
  exact ⟨h0, h5, m0, m1, d0, d1, hr.u t0 t1, hry, hrw, hi.u hf⟩
theorem N7.mv {a : AZ} {s : Nat → Int32} (hO : OkZ a) (h : N7 a s) {k : Int} (k0 : 0 ≤ k) (to : Int) (k1 : k < zC a) : N7 (mvd a k to) (upd s (3 + k).toNat (z3 to)) := by
  obtain ⟨h0, h5, -⟩ := hO
  obtain ⟨s0, s1, s2, tx, ty, tw⟩ := h
  exact ⟨(upd_n (by omega)).trans s0, (upd_n (by omega)).trans s1, (upd_n (by omega)).trans s2, tx.u (by omega) k0 to, ty.o _ (fun k k0 k1 => by have : k < zC a := k1; omega), tw.o _ (fun k k0 k1 => by have : k < zC a := k1; omega)⟩