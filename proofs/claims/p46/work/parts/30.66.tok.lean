/-! Tokens: both readers see the same. -/
/-- a token's name in the class, by that in the reference -/
def ctk (t : Int) : Int := if t = 0 then 5 else if t = 1 then 0 else if t = 2 then 1 else if t = 3 then 2 else if t = 4 then 4 else 3
def Bt (len : Int) (f g : Nat → Int32) (bv : Int → Int) : Prop := ∀ i, 0 ≤ i → i < len → f i.toNat = z3 (bv i) ∧ g i.toNat = z3 (bv i) ∧ 0 ≤ bv i ∧ bv i < 256
def spc (b : Int) : Prop := b = 32 ∨ b = 10
def lts (b : Int) : Prop := 97 ≤ b ∧ b ≤ 122
def dgt (b : Int) : Prop := 48 ≤ b ∧ b ≤ 57
/-- where a run of some bytes ends -/
theorem run_e (P : Int → Prop) (len : Int) : ∀ (m : Nat) (p : Int), p + m = len → ∃ q, p ≤ q ∧ q ≤ len ∧ (∀ i, p ≤ i → i < q → P i) ∧ (q = len ∨ (q < len ∧ ¬ P q)) := by
  intro m
  induction m with
  | zero => intro p h; exact ⟨p, by omega, by omega, fun i h1 h2 => by omega, Or.inl (by omega)⟩
  | succ m ih =>
    intro p h
    by_cases w : P p
    · obtain ⟨q, q1, q2, q3, q4⟩ := ih (p + 1) (by omega)
      refine ⟨q, by omega, q2, fun i h1 h2 => ?_, q4⟩
      by_cases e : i = p
      · rw [e]
        exact w
      · exact q3 i (by omega) h2
    · exact ⟨p, by omega, by omega, fun i h1 h2 => by omega, Or.inr ⟨by omega, w⟩⟩
section TOK
variable {len : Int} {f g : Nat → Int32} {bv : Int → Int}
theorem byte3 (hB : Bt len f g bv) (l0 : 0 ≤ len) (l1 : len ≤ 400) {i : Int} (i0 : 0 ≤ i) (i1 : i < len) : mX5_byteAt f (z3 len) (z3 i) = some (z3 (bv i)) := by
  unfold mX5_byteAt
  rw [if_neg (fun w => by have := (z3lt (by omega) (by omega) (by omega) (by omega)).1 (l3_0 ▸ w); omega), if_neg (fun w => by have := (z3le (by omega) (by omega) (by omega) (by omega)).1 w; omega), if_neg (fun w => by have := (z3le (by omega) (by omega) (by omega) (by omega)).1 (l3_400 ▸ w); omega), if_neg (gix i0 (by omega) (by decide)), z3nat (by omega) (by omega), (hB i i0 i1).1]
theorem byte3n (l0 : 0 ≤ len) (l1 : len ≤ 400) {i : Int} (i0 : len ≤ i) (i1 : i < 1000) : mX5_byteAt f (z3 len) (z3 i) = some 0 := by
  unfold mX5_byteAt
  rw [if_neg (fun w => by have := (z3lt (by omega) (by omega) (by omega) (by omega)).1 (l3_0 ▸ w); omega), if_pos ((z3le (by omega) (by omega) (by omega) (by omega)).2 i0)]
theorem skip3 (hB : Bt len f g bv) (l0 : 0 ≤ len) (l1 : len ≤ 400) {p q : Int} (p0 : 0 ≤ p) (pq : p ≤ q) (q1 : q ≤ len) (hs : ∀ i, p ≤ i → i < q → spc (bv i)) (he : q = len ∨ (q < len ∧ ¬ spc (bv q))) : lX5_step_13 (z3 len) f FU (z3 p) (z3 p) = some (z3 q) := by
  obtain ⟨n, -, e, -⟩ := skipr (fun n j (_ : Unit) => lX5_step_13 (z3 len) f n (z3 j) (z3 j)) (fun j _ => p ≤ j) q
    (fun n j _ hj hp => by
      have hp : p ≤ j := hp
      refine ⟨(), ?_, by omega⟩
      have b := hB j (by omega) (by omega)
      rw [lX5_step_13, if_neg (fun w => by have := (z3le (by omega) (by omega) (by omega) (by omega)).1 w; omega), byte3 hB l0 l1 (by omega) (by omega), Option.bind_some, l3_1, z3a]
      rcases hs j hp hj with w | w
      · rw [if_pos (by rw [w]; rfl)]
      · rw [if_neg (by rw [w]; decide), Option.bind_some, if_pos (by rw [w]; rfl)])
    (q - p).toNat FU p () (by omega) (fuel (by omega)) (Int.le_refl _)
  rw [e, lX5_step_13]
  rcases he with w | ⟨w, w2⟩
  · rw [if_pos ((z3le (by omega) (by omega) (by omega) (by omega)).2 (by omega))]
  · have b := hB q (by omega) (by omega)
    rw [if_neg (fun w => by have := (z3le (by omega) (by omega) (by omega) (by omega)).1 w; omega), byte3 hB l0 l1 (by omega) (by omega), Option.bind_some, if_neg (fun z => w2 (Or.inl ((z3eq (by omega) (by omega) (by omega) (by omega)).1 (Eq.trans z l3_32)))), Option.bind_some, if_neg (fun z => w2 (Or.inr ((z3eq (by omega) (by omega) (by omega) (by omega)).1 (Eq.trans z l3_10))))]
theorem none3 (l0 : 0 ≤ len) (l1 : len ≤ 400) {p : Int} (p0 : 0 ≤ p) (p1 : p < 1000) : lX5_step_89 0 0 (z3 len) f FU (z3 p) (z3 p) = some (z3 p) := by
  rw [FU_s, lX5_step_89]
  by_cases w : len ≤ p
  · rw [if_pos ((z3le (by omega) (by omega) (by omega) (by omega)).2 w)]
  · rw [if_neg (fun q => w ((z3le (by omega) (by omega) (by omega) (by omega)).1 q)), if_pos rfl, if_pos rfl]
/-- the value of the first two digits -/
def vnz (bv : Int → Int) (st : Int) (m : Nat) : Int := if m = 0 then 0 else if m = 1 then bv st - 48 else 10 * (bv st - 48) + bv (st + 1) - 48
theorem num3d (hB : Bt len f g bv) (l0 : 0 ≤ len) (l1 : len ≤ 400) {p q : Int} (p0 : 0 ≤ p) (pq : p < q) (q1 : q ≤ len) (hl : q - p ≤ 2) : lX5_readDigits_23 (z3 len) (z3 q) f FU (z3 0) (z3 p) = some (z3 (vnz bv p (q - p).toNat)) := by
  obtain ⟨n, v, e, e2, e3⟩ := skipr (fun n j (v : Int32) => lX5_readDigits_23 (z3 len) (z3 q) f n v (z3 j)) (fun j v => p ≤ j ∧ v = z3 (vnz bv p (j - p).toNat)) q
    (fun n j v hj hp => by
      obtain ⟨p1, p2⟩ := hp
      have b := hB j (by omega) (by omega)
      rw [lX5_readDigits_23, if_neg (fun w => by have := (z3le (by omega) (by omega) (by omega) (by omega)).1 w; omega), byte3 hB l0 l1 (by omega) (by omega), Option.bind_some, l3_1, z3a]
      refine ⟨_, rfl, by omega, ?_⟩
      rw [p2]
      have cc : j - p = 0 ∨ j - p = 1 := by omega
      rcases cc with c | c
      · have ej : j = p := by omega
        rw [show (j + 1 - p).toNat = 1 by omega, show (j - p).toNat = 0 by omega, ej]
        show z3 0 * 10 + z3 (bv p) - 48 = z3 (bv p - 48)
        rw [l3_10, l3_48, z3m, z3a, z3s, show 0 * 10 + bv p - 48 = bv p - 48 by omega]
      · have ej : j = p + 1 := by omega
        rw [show (j + 1 - p).toNat = 2 by omega, show (j - p).toNat = 1 by omega, ej]
        show z3 (bv p - 48) * 10 + z3 (bv (p + 1)) - 48 = z3 (10 * (bv p - 48) + bv (p + 1) - 48)
        rw [l3_10, l3_48, z3m, z3a, z3s, Int.mul_comm])
    (q - p).toNat FU p (z3 0) (by omega) (fuel (by omega)) ⟨by omega, by rw [show (p - p).toNat = 0 by omega]; rfl⟩
  rw [e, lX5_readDigits_23, if_pos ((z3le (by omega) (by omega) (by omega) (by omega)).2 (Int.le_refl _)), e3]
end TOK
