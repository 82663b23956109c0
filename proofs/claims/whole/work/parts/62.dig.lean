/-! What is written: lists of characters; digits on both sides. -/
def Wr (L : List Int) (c : Int32) (f : Nat → Int32) : Prop := c = z3 L.length ∧ ∀ (i : Nat) (v : Int), L[i]? = some v → f i = z3 v
def Chr (L : List Int) : Prop := ∀ v ∈ L, 0 ≤ v ∧ v < 65536
theorem Wr.a {L : List Int} {f : Nat → Int32} {c : Int32} (h : Wr L c f) (v : Int) : Wr (L ++ [v]) (z3 (L.length + 1)) (upd f L.length (z3 v)) := by
  refine ⟨?_, fun i w e => ?_⟩
  · rw [List.length_append]
    rfl
  · by_cases q : i = L.length
    · rw [q, List.getElem?_concat_length] at e
      cases e
      rw [q, upd_s]
    · rw [upd_n q]
      by_cases q2 : i < L.length
      · rw [List.getElem?_append_left q2] at e
        exact h.2 i w e
      · rw [List.getElem?_append_right (by omega)] at e
        have : 1 ≤ i - L.length := by omega
        obtain ⟨k, hk⟩ : ∃ k, i - L.length = k + 1 := ⟨i - L.length - 1, by omega⟩
        rw [hk] at e
        exact absurd e (by intro q; cases q)
theorem Chr.a {L : List Int} (h : Chr L) {v : Int} (h0 : 0 ≤ v) (h1 : v < 65536) : Chr (L ++ [v]) := by
  intro w hw
  rcases List.mem_append.1 hw with q | q
  · exact h w q
  · have : w = v := List.mem_singleton.1 q
    omega
theorem put4 {L : List Int} {c : Int32} {f : Nat → Int32} (h : Wr L c f) (hl : L.length < 320) {v : Int} (h0 : 0 ≤ v) (h1 : v < 65536) : ∃ c1 f1, mX4_put c f (z3 v) = some (c1, f1) ∧ Wr (L ++ [v]) c1 f1 := by
  refine ⟨_, _, ?_, h.a v⟩
  rw [h.1]
  unfold mX4_put
  rw [if_neg (fun w => by have := (z3le (by omega) (by omega) (by omega) (by omega)).1 (l3_320 ▸ w); omega), if_neg (gix (by omega) (by omega) (by decide)), z3nat (by omega) (by omega), z3nar h0 h1, l3_1, z3a]
  rfl
theorem says7 {L : List Int} {c : Int32} {f : Nat → Int32} (h : Wr L c f) (hl : L.length < 400) (v : Int) : ∃ c1 f1, mX7_says f c (z3 v) = some (f1, c1) ∧ Wr (L ++ [v]) c1 f1 := by
  refine ⟨_, _, ?_, h.a v⟩
  rw [h.1]
  unfold mX7_says
  rw [if_neg (gix (by omega) (by omega) (by decide)), z3nat (by omega) (by omega), l3_1, z3a]
  rfl
/-- k digits of a number -/
def dlx : Nat → Nat → List Int
  | 0, _ => []
  | k + 1, n => dlx k (n / 10) ++ [((48 + n % 10 : Nat) : Int)]
theorem dlx_l : ∀ (k n : Nat), (dlx k n).length = k := by
  intro k
  induction k with
  | zero => intro n; rfl
  | succ k ih =>
    intro n
    show (dlx k (n / 10) ++ [_]).length = k + 1
    rw [List.length_append, ih]
    rfl
theorem dlx_c : ∀ (k n : Nat), Chr (dlx k n) := by
  intro k
  induction k with
  | zero => intro n v hv; exact absurd hv List.not_mem_nil
  | succ k ih =>
    intro n
    exact (ih (n / 10)).a (by omega) (by omega)
def Dg (m n : Nat) : Prop := n < 10 ^ (m + 1) ∧ (m = 0 ∨ 10 ^ m ≤ n)
theorem Dg_e : ∀ (t n : Nat), n < 10 ^ (t + 1) → ∃ m, m ≤ t ∧ Dg m n := by
  intro t
  induction t with
  | zero => intro n h; exact ⟨0, Nat.le_refl _, h, Or.inl rfl⟩
  | succ t ih =>
    intro n h
    by_cases q : 10 ^ (t + 1) ≤ n
    · exact ⟨t + 1, Nat.le_refl _, h, Or.inr q⟩
    · obtain ⟨m, h1, h2⟩ := ih n (by omega)
      exact ⟨m, by omega, h2⟩
theorem z63 (v : Int) : Int64.toInt32 (z6 v) = z3 v := Int64.toInt32_ofInt
theorem z6md {n : Nat} (h : (n : Int) < 9223372036854775808) : z6 (n : Int) - z6 (n : Int) / 10 * 10 = z6 ((n % 10 : Nat) : Int) := z6mod (x := n) (y := 10) h (by omega)
theorem z6dv {n : Nat} (h : (n : Int) < 9223372036854775808) : z6 (n : Int) / 10 = z6 ((n / 10 : Nat) : Int) := by
  rw [show (10 : Int64) = z6 ((10 : Nat) : Int) from rfl, z6d (by omega) h (by omega) (by omega), ← Int.ofNat_tdiv]
theorem num7 : ∀ (m n t : Nat) {L : List Int} {c : Int32} {f : Nat → Int32}, Wr L c f → (n : Int) < 9223372036854775808 → Dg m n → m < t → L.length + m < 399 → ∃ c1 f1, mX7_saysNumber t f c (z6 n) = some (f1, c1) ∧ Wr (L ++ dlx (m + 1) n) c1 f1 := by
  intro m
  induction m with
  | zero =>
    intro n t L c f h hn hd ht hl
    obtain ⟨t, rfl⟩ : ∃ q, t = q + 1 := ⟨t - 1, by omega⟩
    have hn9 : n < 10 := by have := hd.1; omega
    obtain ⟨c1, f1, e1, e2⟩ := says7 h (by omega) ((48 + n % 10 : Nat) : Int)
    refine ⟨c1, f1, ?_, e2⟩
    rw [mX7_saysNumber, if_pos (by rw [l6_0]; exact (z6le (by omega) (by omega) (by omega) (by omega)).2 (by omega)), if_pos (by rw [show (9 : Int64) = z6 9 from rfl]; exact (z6le (by omega) (by omega) (by omega) (by omega)).2 (by omega)), z6md hn, z63, l3_48, z3a, show (48 : Int) + ((n % 10 : Nat) : Int) = ((48 + n % 10 : Nat) : Int) by omega, e1]
    rfl
  | succ m ih =>
    intro n t L c f h hn hd ht hl
    obtain ⟨t, rfl⟩ : ∃ q, t = q + 1 := ⟨t - 1, by omega⟩
    obtain ⟨d1, d2⟩ := hd
    have p10 : 10 ^ (m + 1 + 1) = 10 ^ (m + 1) * 10 := Nat.pow_succ ..
    have d2 : 10 ^ (m + 1) ≤ n := by omega
    have q10 : 10 ^ (m + 1) = 10 ^ m * 10 := Nat.pow_succ ..
    have qp : 0 < 10 ^ m := Nat.pow_pos (by omega)
    have hd' : Dg m (n / 10) := ⟨by omega, by right; omega⟩
    obtain ⟨c1, f1, e1, e2⟩ := ih (n / 10) t h (by omega) hd' (by omega) (by omega)
    obtain ⟨c2, f2, e3, e4⟩ := says7 e2 (by rw [List.length_append, dlx_l]; omega) ((48 + n % 10 : Nat) : Int)
    refine ⟨c2, f2, ?_, ?_⟩
    · rw [mX7_saysNumber, if_pos (by rw [l6_0]; exact (z6le (by omega) (by omega) (by omega) (by omega)).2 (by omega)), if_neg (fun w => by have := (z6le (by omega) (by omega) (by omega) (by omega)).1 ((show (9 : Int64) = z6 9 from rfl) ▸ w); omega), z6md hn, z6dv hn, z63, l3_48, z3a, show (48 : Int) + ((n % 10 : Nat) : Int) = ((48 + n % 10 : Nat) : Int) by omega, e1, Option.bind_some, e3]
      rfl
    · rw [List.append_assoc] at e4
      exact e4
theorem unit4 {m n : Nat} (hd : Dg m n) (hm : m ≤ 18) (hn : (n : Int) < 9223372036854775808) : lX4_putDigits_5 (z6 n) FU (z6 1) (z3 0) = some (z6 ((10 ^ m : Nat) : Int)) := by
  have pb : ∀ j : Nat, j ≤ 18 → 10 ^ j ≤ 10 ^ 18 := fun j hj => Nat.pow_le_pow_right (by omega) hj
  obtain ⟨n1, -, e, -⟩ := skipr (fun q j (_ : Unit) => lX4_putDigits_5 (z6 n) q (z6 ((10 ^ j.toNat : Nat) : Int)) (z3 j)) (fun j _ => 0 ≤ j) m
    (fun q j _ hj hp => by
      have hp : 0 ≤ j := hp
      have b := pb j.toNat (by omega)
      have pos : 0 < 10 ^ j.toNat := Nat.pow_pos (by omega)
      have p1 : 10 ^ (j.toNat + 1) = 10 ^ j.toNat * 10 := Nat.pow_succ ..
      have le : 10 ^ (j.toNat + 1) ≤ n := by
        rcases hd.2 with w | w
        · omega
        · exact Nat.le_trans (Nat.pow_le_pow_right (by omega) (by omega)) w
      have x18 : (10 : Nat) ^ 18 = 1000000000000000000 := by decide
      refine ⟨(), ?_, by omega⟩
      rw [lX4_putDigits_5, if_neg (fun w => by have := (z3le (by omega) (by omega) (by omega) (by omega)).1 (l3_18 ▸ w); omega), z6dv hn, if_neg (fun w => by have := (z6lt (by omega) (by omega) (by omega) (by omega)).1 w; omega), l6_10, z6m, l3_1, z3a, show (j + 1).toNat = j.toNat + 1 by omega, p1, Int.natCast_mul]
      rfl)
    m FU 0 () (by omega) (fuel (by omega)) (by omega)
  have e : lX4_putDigits_5 (z6 n) FU (z6 1) (z3 0) = lX4_putDigits_5 (z6 n) (n1 + 1) (z6 ((10 ^ ((m : Int)).toNat : Nat) : Int)) (z3 m) := e
  rw [e, show ((m : Int)).toNat = m by omega, lX4_putDigits_5]
  by_cases w : m = 18
  · rw [w, if_pos (by decide)]
  · have b := pb m hm
    have pos : 0 < 10 ^ m := Nat.pow_pos (by omega)
    have p1 : 10 ^ (m + 1) = 10 ^ m * 10 := Nat.pow_succ ..
    have x18 : (10 : Nat) ^ 18 = 1000000000000000000 := by decide
    rw [if_neg (fun w => by have := (z3le (by omega) (by omega) (by omega) (by omega)).1 (l3_18 ▸ w); omega), z6dv hn, if_pos ((z6lt (by omega) (by omega) (by omega) (by omega)).2 (by have := hd.1; omega))]
theorem num4 {m n : Nat} {L : List Int} {c : Int32} {f : Nat → Int32} (h : Wr L c f) (hn : (n : Int) < 9223372036854775808) (hd : Dg m n) (hm : m ≤ 18) (hl : L.length + m < 319) : ∃ c1 f1, mX4_putDigits c f (z6 n) = some (c1, f1) ∧ Wr (L ++ dlx (m + 1) n) c1 f1 := by
  have x18 : (10 : Nat) ^ 18 = 1000000000000000000 := by decide
  have pb : ∀ j : Nat, j ≤ 18 → 10 ^ j ≤ 10 ^ 18 := fun j hj => Nat.pow_le_pow_right (by omega) hj
  have H := runr (fun q j (a : Int32 × (Nat → Int32)) => lX4_putDigits_37 (z6 n) q (z6 ((10 ^ (m + 1) / 10 ^ (j.toNat + 1) : Nat) : Int)) (z3 j) a.1 a.2) (fun j a => 0 ≤ j ∧ Wr (L ++ dlx j.toNat (n / 10 ^ (m + 1 - j.toNat))) a.1 a.2) (m + 1) (fun a => a)
    (fun q j a hj hp => by
      obtain ⟨p1, p2⟩ := hp
      have un : 10 ^ (m + 1) / 10 ^ (j.toNat + 1) = 10 ^ (m - j.toNat) := by
        rw [Nat.pow_div (by omega) (by omega), show m + 1 - (j.toNat + 1) = m - j.toNat by omega]
      have un2 : 10 ^ (m + 1) / 10 ^ (j.toNat + 1) / 10 = 10 ^ (m + 1) / 10 ^ ((j + 1).toNat + 1) := by
        rw [Nat.div_div_eq_div_mul, show (j + 1).toNat + 1 = (j.toNat + 1) + 1 by omega, Nat.pow_succ _ (j.toNat + 1)]
      have pos : 0 < 10 ^ (m - j.toNat) := Nat.pow_pos (by omega)
      have b := pb (m - j.toNat) (by omega)
      have db : n / 10 ^ (m - j.toNat) ≤ n := Nat.div_le_self _ _
      have dd : n / 10 ^ (m - j.toNat) / 10 = n / 10 ^ (m + 1 - j.toNat) := by
        rw [Nat.div_div_eq_div_mul, ← Nat.pow_succ, show (m - j.toNat).succ = m + 1 - j.toNat by omega]
      obtain ⟨c1, f1, e1, e2⟩ := put4 p2 (by rw [List.length_append, dlx_l]; omega) (v := ((48 + n / 10 ^ (m - j.toNat) % 10 : Nat) : Int)) (by omega) (by omega)
      refine ⟨(c1, f1), ?_, by omega, ?_⟩
      · try dsimp only
        rw [lX4_putDigits_37, if_neg (fun w => by have := (z3le (by omega) (by omega) (by omega) (by omega)).1 ((show (19 : Int32) = z3 19 from rfl) ▸ w); omega), un, if_neg (fun w => by have := (z6le (by omega) (by omega) (by omega) (by omega)).1 (l6_0 ▸ w); omega), if_neg (fun w => by have := (z6eq (by omega) (by omega) (by omega) (by omega)).1 (Eq.trans w l6_0); omega), z6d (by omega) hn (by omega) (by omega), ← Int.ofNat_tdiv, z6md (by omega), l6_48, z6a, z63, show (48 : Int) + ((n / 10 ^ (m - j.toNat) % 10 : Nat) : Int) = ((48 + n / 10 ^ (m - j.toNat) % 10 : Nat) : Int) by omega, z3ch (by omega) (by omega), e1, Option.bind_some, z6dv (by omega), ← un, un2, l3_1, z3a]
      · rw [show (j + 1).toNat = j.toNat + 1 by omega, show m + 1 - (j.toNat + 1) = m - j.toNat by omega]
        show Wr (L ++ (dlx j.toNat (n / 10 ^ (m - j.toNat) / 10) ++ [_])) c1 f1
        rw [dd, ← List.append_assoc]
        exact e2)
    (fun q a hp => by
      obtain ⟨p1, p2⟩ := hp
      have un : 10 ^ (m + 1) / 10 ^ (((m : Int) + 1).toNat + 1) = 0 := by
        rw [show ((m : Int) + 1).toNat + 1 = m + 2 by omega]
        exact Nat.div_eq_of_lt (Nat.pow_lt_pow_right (by omega) (by omega))
      try dsimp only
      rw [lX4_putDigits_37, un]
      by_cases w : m = 18
      · rw [if_pos (by rw [w]; decide)]
      · rw [if_neg (fun w => by have := (z3le (by omega) (by omega) (by omega) (by omega)).1 ((show (19 : Int32) = z3 19 from rfl) ▸ w); omega), if_pos (by decide)])
    (m + 1) FU 0 (c, f) (by omega) (fuel (by omega)) ⟨by omega, by
      show Wr (L ++ []) c f
      rw [List.append_nil]
      exact h⟩
  obtain ⟨a, e, -, e2⟩ := H
  have un0 : 10 ^ (m + 1) / 10 ^ ((0 : Int).toNat + 1) = 10 ^ m := by
    rw [Nat.pow_div (by omega) (by omega), show m + 1 - ((0 : Int).toNat + 1) = m by omega]
  rw [un0] at e
  rw [show ((m : Int) + 1).toNat = m + 1 by omega, show m + 1 - (m + 1) = 0 by omega, Nat.pow_zero, Nat.div_one] at e2
  refine ⟨a.1, a.2, ?_, e2⟩
  have e : lX4_putDigits_37 (z6 n) FU (z6 ((10 ^ m : Nat) : Int)) 0 c f = some a := e
  unfold mX4_putDigits
  rw [show lX4_putDigits_5 (z6 n) FU 1 0 = some (z6 ((10 ^ m : Nat) : Int)) from unit4 hd hm hn, Option.bind_some, e]
  rfl
