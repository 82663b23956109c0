/-! A token: both readers see the same. -/
def TkZ (len : Int) (f g : Nat → Int32) (p t st nx v : Int) : Prop := (0 ≤ t) ∧ (t ≤ 5) ∧ (p ≤ st) ∧ (st ≤ len) ∧ (t = 0 → st = len) ∧ (t ≠ 0 → st < nx ∧ nx ≤ len) ∧ (t = 3 → 0 ≤ v ∧ v ≤ 99) ∧ (∀ a b, ∃ n', mX5_step f (z3 len) (z3 p) a b = some (n', z3 st, z3 (ctk t)) ∧ (t ≠ 0 → n' = z3 nx)) ∧ (∀ a b c, ∃ n' w, mX7_advance g (z3 len) (z3 p) a b c = some (1, n', z3 st, z3 t, w) ∧ (t ≠ 0 → n' = z3 nx) ∧ (t = 3 → w = z3 v)) ∧ (t = 3 → lX5_readDigits_23 (z3 len) (z3 nx) f FU 0 (z3 st) = some (z3 v))
section TKP
variable {len : Int} {f g : Nat → Int32} {p t st nx v : Int}
theorem TkZ.t0 (h : TkZ len f g p t st nx v) : 0 ≤ t := h.1
theorem TkZ.t5 (h : TkZ len f g p t st nx v) : t ≤ 5 := h.2.1
theorem TkZ.s0 (h : TkZ len f g p t st nx v) : p ≤ st := h.2.2.1
theorem TkZ.s1 (h : TkZ len f g p t st nx v) : st ≤ len := h.2.2.2.1
theorem TkZ.e (h : TkZ len f g p t st nx v) : t = 0 → st = len := h.2.2.2.2.1
theorem TkZ.n (h : TkZ len f g p t st nx v) : t ≠ 0 → st < nx ∧ nx ≤ len := h.2.2.2.2.2.1
theorem TkZ.w (h : TkZ len f g p t st nx v) : t = 3 → 0 ≤ v ∧ v ≤ 99 := h.2.2.2.2.2.2.1
theorem TkZ.k (h : TkZ len f g p t st nx v) : ∀ a b, ∃ n', mX5_step f (z3 len) (z3 p) a b = some (n', z3 st, z3 (ctk t)) ∧ (t ≠ 0 → n' = z3 nx) := h.2.2.2.2.2.2.2.1
theorem TkZ.r (h : TkZ len f g p t st nx v) : ∀ a b c, ∃ n' w, mX7_advance g (z3 len) (z3 p) a b c = some (1, n', z3 st, z3 t, w) ∧ (t ≠ 0 → n' = z3 nx) ∧ (t = 3 → w = z3 v) := h.2.2.2.2.2.2.2.2.1
theorem TkZ.d (h : TkZ len f g p t st nx v) : t = 3 → lX5_readDigits_23 (z3 len) (z3 nx) f FU 0 (z3 st) = some (z3 v) := h.2.2.2.2.2.2.2.2.2
end TKP
theorem z3m1n {b : Int} (h0 : 0 ≤ b) (h1 : b < 256) : ¬ z3 b = -1 := fun w => by
  have := (z3eq (by omega) (by omega) (by omega) (by omega)).1 (Eq.trans w (show (-1 : Int32) = z3 (-1) from rfl))
  omega
theorem vnz_b {bv : Int → Int} {q : Int} {m : Nat} (m1 : 1 ≤ m) (m2 : m ≤ 2) (h : ∀ i, q ≤ i → i < q + m → dgt (bv i)) : 0 ≤ vnz bv q m ∧ vnz bv q m ≤ 99 := by
  have c : m = 1 ∨ m = 2 := by omega
  have h0 := h q (by omega) (by omega)
  unfold dgt at h0
  rcases c with rfl | rfl
  · show 0 ≤ bv q - 48 ∧ bv q - 48 ≤ 99
    omega
  · have h2 := h (q + 1) (by omega) (by omega)
    unfold dgt at h2
    show 0 ≤ 10 * (bv q - 48) + bv (q + 1) - 48 ∧ 10 * (bv q - 48) + bv (q + 1) - 48 ≤ 99
    omega
theorem l3_59z : (59 : Int32) = z3 59 := rfl
theorem tokenZ {len : Int} {f g : Nat → Int32} {bv : Int → Int} (hB : Bt len f g bv) (l0 : 0 ≤ len) (l1 : len ≤ 400) {p : Int} (p0 : 0 ≤ p) (p1 : p ≤ len) : ∃ t st nx v, TkZ len f g p t st nx v := by
  obtain ⟨q, q1, q2, q3, q4⟩ := run_e (fun i => spc (bv i)) len (len - p).toNat p (by omega)
  have k3 := skip3 hB l0 l1 p0 q1 q2 q3 q4
  have k7 := skip7 hB l0 l1 p0 q1 q2 q3 q4
  have eq1 : z3 q + 1 = z3 (q + 1) := by rw [l3_1, z3a]
  by_cases hq : q = len
  · refine ⟨0, q, q, 0, by omega, by omega, q1, q2, fun _ => hq, fun z => absurd rfl z, fun z => absurd z (by decide), fun a b => ?_, fun a b c => ?_, fun z => absurd z (by decide)⟩
    · unfold mX5_step
      rw [k3, Option.bind_some, byte3n l0 l1 (by omega) (by omega), Option.bind_some, show mX5_isLetter 0 = some 0 from rfl, Option.bind_some, show mX5_isDigit 0 = some 0 from rfl, Option.bind_some, eq1, none3 l0 l1 (by omega) (by omega), Option.bind_some, if_neg (fun w => by have := (z3lt (by omega) (by omega) (by omega) (by omega)).1 w; omega)]
      exact ⟨_, rfl, fun z => absurd rfl z⟩
    · unfold mX7_advance
      rw [k7, Option.bind_some, byte7n l0 l1 (by omega) (by omega), Option.bind_some, if_pos rfl]
      exact ⟨_, _, rfl, fun z => absurd rfl z, fun z => absurd z (by decide)⟩
  · have hb := hB q (by omega) (by omega)
    have hlt : z3 q < z3 len := (z3lt (by omega) (by omega) (by omega) (by omega)).2 (by omega)
    by_cases hl : lts (bv q)
    · obtain ⟨r, r1, r2, r3, r4⟩ := run_e (fun i => lts (bv i)) len (len - (q + 1)).toNat (q + 1) (by omega)
      have w3 := (word3 hB l0 l1 (by omega) r1 r2 r3 r4).1
      have w7 := (word3 hB l0 l1 (p := q) (by omega) (by omega) r2 (fun i i0 i1 => by
        by_cases e : i = q
        · rw [e]; exact hl
        · exact r3 i (by omega) i1) r4).2
      have hd : ¬ dgt (bv q) := fun w => by unfold dgt at w; unfold lts at hl; omega
      obtain ⟨L1, L2⟩ := (let3 (b := bv q) (by omega) (by omega)).1 hl
      obtain ⟨D1, D2⟩ := (dig3 (b := bv q) (by omega) (by omega)).2 hd
      by_cases h8 : r - q ≤ 8
      · refine ⟨2, q, r, 0, by omega, by omega, q1, q2, fun z => absurd z (by decide), fun _ => by omega, fun z => absurd z (by decide), fun a b => ?_, fun a b c => ?_, fun z => absurd z (by decide)⟩
        · unfold mX5_step
          rw [k3, Option.bind_some, byte3 hB l0 l1 (by omega) (by omega), Option.bind_some, L1, Option.bind_some, D1, Option.bind_some, eq1, w3, Option.bind_some, if_pos hlt, if_neg n10, z3s, if_pos (l3_8 ▸ (z3le (by omega) (by omega) (by omega) (by omega)).2 h8)]
          exact ⟨_, rfl, fun _ => rfl⟩
        · unfold mX7_advance mX7_readWord
          rw [k7, Option.bind_some, byte7 hB l0 l1 (by omega) (by omega), Option.bind_some, if_neg (z3m1n (by omega) (by omega)), L2, Option.bind_some, if_neg n10, w7, Option.bind_some, z3s, if_pos (l3_8 ▸ (z3le (by omega) (by omega) (by omega) (by omega)).2 h8)]
          exact ⟨_, _, rfl, fun _ => rfl, fun z => absurd z (by decide)⟩
      · refine ⟨1, q, r, 0, by omega, by omega, q1, q2, fun z => absurd z (by decide), fun _ => by omega, fun z => absurd z (by decide), fun a b => ?_, fun a b c => ?_, fun z => absurd z (by decide)⟩
        · unfold mX5_step
          rw [k3, Option.bind_some, byte3 hB l0 l1 (by omega) (by omega), Option.bind_some, L1, Option.bind_some, D1, Option.bind_some, eq1, w3, Option.bind_some, if_pos hlt, if_neg n10, z3s, if_neg (fun z => h8 ((z3le (by omega) (by omega) (by omega) (by omega)).1 (l3_8 ▸ z)))]
          exact ⟨_, rfl, fun _ => rfl⟩
        · unfold mX7_advance mX7_readWord
          rw [k7, Option.bind_some, byte7 hB l0 l1 (by omega) (by omega), Option.bind_some, if_neg (z3m1n (by omega) (by omega)), L2, Option.bind_some, if_neg n10, w7, Option.bind_some, z3s, if_neg (fun z => h8 ((z3le (by omega) (by omega) (by omega) (by omega)).1 (l3_8 ▸ z)))]
          exact ⟨_, _, rfl, fun _ => rfl, fun z => absurd z (by decide)⟩
    · obtain ⟨L1, L2⟩ := (let3 (b := bv q) (by omega) (by omega)).2 hl
      by_cases hd : dgt (bv q)
      · obtain ⟨D1, D2⟩ := (dig3 (b := bv q) (by omega) (by omega)).1 hd
        obtain ⟨r, r1, r2, r3, r4⟩ := run_e (fun i => dgt (bv i)) len (len - (q + 1)).toNat (q + 1) (by omega)
        have w3 := digs3 hB l0 l1 (by omega) r1 r2 r3 r4
        have ra : ∀ i, q ≤ i → i < r → dgt (bv i) := fun i i0 i1 => by
          by_cases e : i = q
          · rw [e]; exact hd
          · exact r3 i (by omega) i1
        obtain ⟨v, v1, v2⟩ := num7d hB l0 l1 (p := q) (by omega) (by omega) r2 ra r4
        by_cases h2 : r - q ≤ 2
        · refine ⟨3, q, r, vnz bv q (r - q).toNat, by omega, by omega, q1, q2, fun z => absurd z (by decide), fun _ => by omega, fun _ => vnz_b (by omega) (by omega) (fun i i0 i1 => ra i i0 (by omega)), fun a b => ?_, fun a b c => ?_, fun _ => num3d hB l0 l1 (by omega) (by omega) r2 h2⟩
          · unfold mX5_step
            rw [k3, Option.bind_some, byte3 hB l0 l1 (by omega) (by omega), Option.bind_some, L1, Option.bind_some, D1, Option.bind_some, eq1, w3, Option.bind_some, if_pos hlt, if_pos rfl, if_neg n10, z3s, if_pos (l3_2 ▸ (z3le (by omega) (by omega) (by omega) (by omega)).2 h2)]
            exact ⟨_, rfl, fun _ => rfl⟩
          · unfold mX7_advance mX7_readNumber
            rw [k7, Option.bind_some, byte7 hB l0 l1 (by omega) (by omega), Option.bind_some, if_neg (z3m1n (by omega) (by omega)), L2, Option.bind_some, if_pos rfl, D2, Option.bind_some, if_neg n10, l3_0, v1, Option.bind_some, z3s, if_pos (l3_2 ▸ (z3le (by omega) (by omega) (by omega) (by omega)).2 h2)]
            exact ⟨_, _, rfl, fun _ => rfl, fun _ => v2 h2⟩
        · refine ⟨1, q, r, 0, by omega, by omega, q1, q2, fun z => absurd z (by decide), fun _ => by omega, fun z => absurd z (by decide), fun a b => ?_, fun a b c => ?_, fun z => absurd z (by decide)⟩
          · unfold mX5_step
            rw [k3, Option.bind_some, byte3 hB l0 l1 (by omega) (by omega), Option.bind_some, L1, Option.bind_some, D1, Option.bind_some, eq1, w3, Option.bind_some, if_pos hlt, if_pos rfl, if_neg n10, z3s, if_neg (fun z => h2 ((z3le (by omega) (by omega) (by omega) (by omega)).1 (l3_2 ▸ z)))]
            exact ⟨_, rfl, fun _ => rfl⟩
          · unfold mX7_advance mX7_readNumber
            rw [k7, Option.bind_some, byte7 hB l0 l1 (by omega) (by omega), Option.bind_some, if_neg (z3m1n (by omega) (by omega)), L2, Option.bind_some, if_pos rfl, D2, Option.bind_some, if_neg n10, l3_0, v1, Option.bind_some, z3s, if_neg (fun z => h2 ((z3le (by omega) (by omega) (by omega) (by omega)).1 (l3_2 ▸ z)))]
            exact ⟨_, _, rfl, fun _ => rfl, fun z => absurd z (by decide)⟩
      · obtain ⟨D1, D2⟩ := (dig3 (b := bv q) (by omega) (by omega)).2 hd
        have k5 : ∀ a b, mX5_step f (z3 len) (z3 p) a b = if z3 (bv q) = 45 then some (z3 (q + 1), z3 q, 3) else if z3 (bv q) = 59 then some (z3 (q + 1), z3 q, 4) else some (z3 (q + 1), z3 q, 0) := fun a b => by
          unfold mX5_step
          rw [k3, Option.bind_some, byte3 hB l0 l1 (by omega) (by omega), Option.bind_some, L1, Option.bind_some, D1, Option.bind_some, eq1, none3 l0 l1 (by omega) (by omega), Option.bind_some, if_pos hlt, if_pos rfl, if_pos rfl]
        have k8 : ∀ a b c, mX7_advance g (z3 len) (z3 p) a b c = (mX7_readSign (z3 q) b (z3 (bv q))).bind fun r13 => some (1, r13.1, z3 q, r13.2, c) := fun a b c => by
          unfold mX7_advance
          rw [k7, Option.bind_some, byte7 hB l0 l1 (by omega) (by omega), Option.bind_some, if_neg (z3m1n (by omega) (by omega)), L2, Option.bind_some, if_pos rfl, D2, Option.bind_some, if_pos rfl]
        by_cases h45 : bv q = 45
        · refine ⟨5, q, q + 1, 0, by omega, by omega, q1, q2, fun z => absurd z (by decide), fun _ => by omega, fun z => absurd z (by decide), fun a b => ?_, fun a b c => ?_, fun z => absurd z (by decide)⟩
          · rw [k5, if_pos (by rw [h45]; rfl)]
            exact ⟨_, rfl, fun _ => rfl⟩
          · rw [k8]
            unfold mX7_readSign
            rw [if_neg (by rw [h45]; decide), if_pos (by rw [h45]; rfl), Option.bind_some, eq1]
            exact ⟨_, _, rfl, fun _ => rfl, fun z => absurd z (by decide)⟩
        · have g45 : ¬ z3 (bv q) = 45 := fun z => h45 ((z3eq (by omega) (by omega) (by omega) (by omega)).1 (Eq.trans z l3_45))
          by_cases h59 : bv q = 59
          · refine ⟨4, q, q + 1, 0, by omega, by omega, q1, q2, fun z => absurd z (by decide), fun _ => by omega, fun z => absurd z (by decide), fun a b => ?_, fun a b c => ?_, fun z => absurd z (by decide)⟩
            · rw [k5, if_neg g45, if_pos (by rw [h59]; rfl)]
              exact ⟨_, rfl, fun _ => rfl⟩
            · rw [k8]
              unfold mX7_readSign
              rw [if_pos (by rw [h59]; rfl), Option.bind_some, eq1]
              exact ⟨_, _, rfl, fun _ => rfl, fun z => absurd z (by decide)⟩
          · have g59 : ¬ z3 (bv q) = 59 := fun z => h59 ((z3eq (by omega) (by omega) (by omega) (by omega)).1 (Eq.trans z l3_59z))
            refine ⟨1, q, q + 1, 0, by omega, by omega, q1, q2, fun z => absurd z (by decide), fun _ => by omega, fun z => absurd z (by decide), fun a b => ?_, fun a b c => ?_, fun z => absurd z (by decide)⟩
            · rw [k5, if_neg g45, if_neg g59]
              exact ⟨_, rfl, fun _ => rfl⟩
            · rw [k8]
              unfold mX7_readSign
              rw [if_neg g59, if_neg g45, Option.bind_some, eq1]
              exact ⟨_, _, rfl, fun _ => rfl, fun z => absurd z (by decide)⟩
