/-! Terms of a polynomial, fractions: both sides write the same. -/
noncomputable def mdg (n : Nat) : Nat := Classical.epsilon (fun m => m ≤ 18 ∧ Dg m n)
theorem mdg_s {n : Nat} (h : (n : Int) < 9223372036854775808) : mdg n ≤ 18 ∧ Dg (mdg n) n := by
  have x19 : (10 : Nat) ^ (18 + 1) = 10000000000000000000 := by decide
  exact Classical.epsilon_spec (p := fun m => m ≤ 18 ∧ Dg m n) (Dg_e 18 n (by omega))
noncomputable def dgs (n : Nat) : List Int := dlx (mdg n + 1) n
theorem dgs_l {n : Nat} (h : (n : Int) < 9223372036854775808) : (dgs n).length ≤ 19 := by
  have := (mdg_s h).1
  unfold dgs
  rw [dlx_l]
  omega
theorem dig4 {n : Nat} {L : List Int} {c : Int32} {f : Nat → Int32} (h : Wr L c f) (hn : (n : Int) < 9223372036854775808) (hl : L.length ≤ 300) : ∃ c1 f1, mX4_putDigits c f (z6 n) = some (c1, f1) ∧ Wr (L ++ dgs n) c1 f1 := by
  have := mdg_s hn
  exact num4 h hn this.2 this.1 (by omega)
theorem dig7 {n t : Nat} {L : List Int} {c : Int32} {f : Nat → Int32} (h : Wr L c f) (hn : (n : Int) < 9223372036854775808) (hl : L.length ≤ 300) (ht : 18 < t) : ∃ c1 f1, mX7_saysNumber t f c (z6 n) = some (f1, c1) ∧ Wr (L ++ dgs n) c1 f1 := by
  have := mdg_s hn
  exact num7 (mdg n) n t h hn this.2 (by omega) (by omega)
def rst3 (c : Int32) (f : Nat → Int32) (A : Int64) (p2 : Int32) : Option (Int32 × (Nat → Int32)) := if A = 1 then if p2 = 0 then (mX4_putDigits c f A).bind fun r23 => if p2 ≤ 0 then if p2 ≤ 1 then some (r23.1, r23.2) else (mX4_put r23.1 r23.2 94).bind fun r26 => (mX4_putDigits r26.1 r26.2 (Int32.toInt64 p2)).bind fun r27 => some (r27.1, r27.2) else (mX4_put r23.1 r23.2 120).bind fun r28 => if p2 ≤ 1 then some (r28.1, r28.2) else (mX4_put r28.1 r28.2 94).bind fun r30 => (mX4_putDigits r30.1 r30.2 (Int32.toInt64 p2)).bind fun r31 => some (r31.1, r31.2) else if p2 ≤ 0 then if p2 ≤ 1 then some (c, f) else (mX4_put c f 94).bind fun r17 => (mX4_putDigits r17.1 r17.2 (Int32.toInt64 p2)).bind fun r18 => some (r18.1, r18.2) else (mX4_put c f 120).bind fun r19 => if p2 ≤ 1 then some (r19.1, r19.2) else (mX4_put r19.1 r19.2 94).bind fun r21 => (mX4_putDigits r21.1 r21.2 (Int32.toInt64 p2)).bind fun r22 => some (r22.1, r22.2) else (mX4_putDigits c f A).bind fun r5 => if p2 ≤ 0 then if p2 ≤ 1 then some (r5.1, r5.2) else (mX4_put r5.1 r5.2 94).bind fun r8 => (mX4_putDigits r8.1 r8.2 (Int32.toInt64 p2)).bind fun r9 => some (r9.1, r9.2) else (mX4_put r5.1 r5.2 120).bind fun r10 => if p2 ≤ 1 then some (r10.1, r10.2) else (mX4_put r10.1 r10.2 94).bind fun r12 => (mX4_putDigits r12.1 r12.2 (Int32.toInt64 p2)).bind fun r13 => some (r13.1, r13.2)
def rst7 (c : Int32) (f : Nat → Int32) (A : Int64) (p1 : Int32) : Option ((Nat → Int32) × Int32) := if p1 = 0 then (mX7_saysNumber 24 f c A).bind fun r5 => if p1 ≤ 0 then if p1 ≤ 1 then some (r5.1, r5.2) else (mX7_says r5.1 r5.2 94).bind fun r8 => (mX7_saysNumber 24 r8.1 r8.2 (Int32.toInt64 p1)).bind fun r9 => some (r9.1, r9.2) else (mX7_says r5.1 r5.2 120).bind fun r10 => if p1 ≤ 1 then some (r10.1, r10.2) else (mX7_says r10.1 r10.2 94).bind fun r12 => (mX7_saysNumber 24 r12.1 r12.2 (Int32.toInt64 p1)).bind fun r13 => some (r13.1, r13.2) else if A = 1 then if p1 ≤ 0 then if p1 ≤ 1 then some (f, c) else (mX7_says f c 94).bind fun r17 => (mX7_saysNumber 24 r17.1 r17.2 (Int32.toInt64 p1)).bind fun r18 => some (r18.1, r18.2) else (mX7_says f c 120).bind fun r19 => if p1 ≤ 1 then some (r19.1, r19.2) else (mX7_says r19.1 r19.2 94).bind fun r21 => (mX7_saysNumber 24 r21.1 r21.2 (Int32.toInt64 p1)).bind fun r22 => some (r22.1, r22.2) else (mX7_saysNumber 24 f c A).bind fun r23 => if p1 ≤ 0 then if p1 ≤ 1 then some (r23.1, r23.2) else (mX7_says r23.1 r23.2 94).bind fun r26 => (mX7_saysNumber 24 r26.1 r26.2 (Int32.toInt64 p1)).bind fun r27 => some (r27.1, r27.2) else (mX7_says r23.1 r23.2 120).bind fun r28 => if p1 ≤ 1 then some (r28.1, r28.2) else (mX7_says r28.1 r28.2 94).bind fun r30 => (mX7_saysNumber 24 r30.1 r30.2 (Int32.toInt64 p1)).bind fun r31 => some (r31.1, r31.2)
theorem term3 (c : Int32) (f : Nat → Int32) (v : Int64) (p : Int32) : mX4_putTerm c f v p = if v = 0 then some (c, f) else if 0 ≤ v then if c ≤ 0 then rst3 c f (mabsl_v v) p else (mX4_put c f 43).bind fun r => rst3 r.1 r.2 (mabsl_v v) p else (mX4_put c f 45).bind fun r => rst3 r.1 r.2 (mabsl_v v) p := rfl
theorem power7 (k : Nat → Int64) (c : Int32) (f : Nat → Int32) {p : Int32} (hp : ¬ (p < 0 ∨ 5 ≤ Int32.toNatClampNeg p)) : mX7_saysPower k f c p = if 0 ≤ k (Int32.toNatClampNeg p) then if c ≤ 0 then rst7 c f (mabsl_v (k (Int32.toNatClampNeg p))) p else (mX7_says f c 43).bind fun r => rst7 r.2 r.1 (mabsl_v (k (Int32.toNatClampNeg p))) p else (mX7_says f c 45).bind fun r => rst7 r.2 r.1 (mabsl_v (k (Int32.toNatClampNeg p))) p := by
  unfold mX7_saysPower
  rw [if_neg hp]
  rfl
/-- a term without its sign -/
noncomputable def rl (n p : Nat) : List Int := (if n = 1 ∧ p ≠ 0 then [] else dgs n) ++ ((if p = 0 then [] else [120]) ++ (if p ≤ 1 then [] else [94] ++ dgs p))
theorem rl_l {n p : Nat} (h : (n : Int) < 9223372036854775808) (hp : p ≤ 4) : (rl n p).length ≤ 40 := by
  have a := dgs_l h
  have b := dgs_l (n := p) (by omega)
  unfold rl
  rw [List.length_append, List.length_append]
  have l1 : (if n = 1 ∧ p ≠ 0 then ([] : List Int) else dgs n).length ≤ 19 := by
    split
    · exact Nat.zero_le _
    · exact a
  have l2 : (if p = 0 then ([] : List Int) else [120]).length ≤ 1 := by
    split <;> decide
  have l3 : (if p ≤ 1 then ([] : List Int) else [94] ++ dgs p).length ≤ 20 := by
    split
    · exact Nat.zero_le _
    · rw [List.length_append]
      show 1 + _ ≤ 20
      omega
  omega
section RST
variable {L : List Int} {c : Int32} {f : Nat → Int32} {n : Nat}
/-- x and the power -/
theorem tail3 (h : Wr L c f) (hl : L.length ≤ 290) {p : Nat} (hp : p ≤ 4) : ∃ c1 f1, (if z3 p ≤ 0 then if z3 p ≤ 1 then some (c, f) else (mX4_put c f 94).bind fun r => (mX4_putDigits r.1 r.2 (Int32.toInt64 (z3 p))).bind fun r => some (r.1, r.2) else (mX4_put c f 120).bind fun r => if z3 p ≤ 1 then some (r.1, r.2) else (mX4_put r.1 r.2 94).bind fun r => (mX4_putDigits r.1 r.2 (Int32.toInt64 (z3 p))).bind fun r => some (r.1, r.2)) = some (c1, f1) ∧ Wr (L ++ ((if p = 0 then [] else [120]) ++ (if p ≤ 1 then [] else [94] ++ dgs p))) c1 f1 := by
  have cc : p = 0 ∨ p = 1 ∨ 2 ≤ p := by omega
  rcases cc with rfl | rfl | w
  · rw [if_pos (by decide), if_pos (by decide), if_pos rfl, if_pos (by decide)]
    refine ⟨c, f, rfl, ?_⟩
    show Wr (L ++ []) c f
    rw [List.append_nil]
    exact h
  · obtain ⟨c1, f1, e1, e2⟩ := put4 h (by omega) (v := 120) (by omega) (by omega)
    rw [if_neg (by decide), l3_120, e1, Option.bind_some, if_pos (by decide), if_neg (by decide), if_pos (by decide)]
    exact ⟨c1, f1, rfl, e2⟩
  · obtain ⟨c1, f1, e1, e2⟩ := put4 h (by omega) (v := 120) (by omega) (by omega)
    have l1 : (L ++ [(120 : Int)]).length = L.length + 1 := List.length_append
    obtain ⟨c2, f2, e3, e4⟩ := put4 e2 (by omega) (v := 94) (by omega) (by omega)
    have l2 : (L ++ [(120 : Int)] ++ [94]).length = L.length + 2 := by rw [List.length_append, l1]; rfl
    obtain ⟨c3, f3, e5, e6⟩ := dig4 (n := p) e4 (by omega) (by omega)
    rw [if_neg (fun w => by have := (z3le (by omega) (by omega) (by omega) (by omega)).1 (l3_0 ▸ w); omega), l3_120, e1, Option.bind_some, if_neg (fun w => by have := (z3le (by omega) (by omega) (by omega) (by omega)).1 (l3_1 ▸ w); omega), l3_94, e3, Option.bind_some, z364 (by omega) (by omega), e5, if_neg (by omega), if_neg (by omega)]
    refine ⟨c3, f3, rfl, ?_⟩
    rw [List.append_assoc, List.append_assoc] at e6
    exact e6
theorem tail7 (h : Wr L c f) (hl : L.length ≤ 290) {p : Nat} (hp : p ≤ 4) : ∃ c1 f1, (if z3 p ≤ 0 then if z3 p ≤ 1 then some (f, c) else (mX7_says f c 94).bind fun r => (mX7_saysNumber 24 r.1 r.2 (Int32.toInt64 (z3 p))).bind fun r => some (r.1, r.2) else (mX7_says f c 120).bind fun r => if z3 p ≤ 1 then some (r.1, r.2) else (mX7_says r.1 r.2 94).bind fun r => (mX7_saysNumber 24 r.1 r.2 (Int32.toInt64 (z3 p))).bind fun r => some (r.1, r.2)) = some (f1, c1) ∧ Wr (L ++ ((if p = 0 then [] else [120]) ++ (if p ≤ 1 then [] else [94] ++ dgs p))) c1 f1 := by
  have cc : p = 0 ∨ p = 1 ∨ 2 ≤ p := by omega
  rcases cc with rfl | rfl | w
  · rw [if_pos (by decide), if_pos (by decide), if_pos rfl, if_pos (by decide)]
    refine ⟨c, f, rfl, ?_⟩
    show Wr (L ++ []) c f
    rw [List.append_nil]
    exact h
  · obtain ⟨c1, f1, e1, e2⟩ := says7 h (by omega) 120
    rw [if_neg (by decide), l3_120, e1, Option.bind_some, if_pos (by decide), if_neg (by decide), if_pos (by decide)]
    exact ⟨c1, f1, rfl, e2⟩
  · obtain ⟨c1, f1, e1, e2⟩ := says7 h (by omega) 120
    have l1 : (L ++ [(120 : Int)]).length = L.length + 1 := List.length_append
    obtain ⟨c2, f2, e3, e4⟩ := says7 e2 (by omega) 94
    have l2 : (L ++ [(120 : Int)] ++ [94]).length = L.length + 2 := by rw [List.length_append, l1]; rfl
    obtain ⟨c3, f3, e5, e6⟩ := dig7 (n := p) (t := 24) e4 (by omega) (by omega) (by omega)
    rw [if_neg (fun w => by have := (z3le (by omega) (by omega) (by omega) (by omega)).1 (l3_0 ▸ w); omega), l3_120, e1, Option.bind_some, if_neg (fun w => by have := (z3le (by omega) (by omega) (by omega) (by omega)).1 (l3_1 ▸ w); omega), l3_94, e3, Option.bind_some, z364 (by omega) (by omega), e5, if_neg (by omega), if_neg (by omega)]
    refine ⟨c3, f3, rfl, ?_⟩
    rw [List.append_assoc, List.append_assoc] at e6
    exact e6
theorem rest3 (h : Wr L c f) (hn : (n : Int) < 9223372036854775808) (hl : L.length ≤ 250) {p : Nat} (hp : p ≤ 4) : ∃ c1 f1, rst3 c f (z6 n) (z3 p) = some (c1, f1) ∧ Wr (L ++ rl n p) c1 f1 := by
  unfold rst3 rl
  have dl := dgs_l hn
  by_cases w1 : n = 1
  · subst w1
    rw [if_pos (show z6 ((1 : Nat) : Int) = 1 from rfl)]
    by_cases w2 : p = 0
    · obtain ⟨c1, f1, e1, e2⟩ := dig4 h hn (by omega)
      obtain ⟨c2, f2, e3, e4⟩ := tail3 e2 (by rw [List.length_append]; omega) hp
      rw [if_pos (by rw [w2]; rfl), e1, Option.bind_some, if_neg (show ¬ (1 = 1 ∧ p ≠ 0) by omega), ← List.append_assoc]
      exact ⟨c2, f2, e3, e4⟩
    · obtain ⟨c2, f2, e3, e4⟩ := tail3 h (by omega) hp
      rw [if_neg (fun q => w2 (by have := (z3eq (by omega) (by omega) (by omega) (by omega)).1 (Eq.trans q l3_0); omega)), if_pos (show (1 : Nat) = 1 ∧ p ≠ 0 from ⟨rfl, w2⟩), List.nil_append]
      exact ⟨c2, f2, e3, e4⟩
  · rw [if_neg (fun q => w1 (by have := (z6eq (by omega) (by omega) (by omega) (by omega)).1 (Eq.trans q l6_1); omega))]
    obtain ⟨c1, f1, e1, e2⟩ := dig4 h hn (by omega)
    obtain ⟨c2, f2, e3, e4⟩ := tail3 e2 (by rw [List.length_append]; omega) hp
    rw [e1, Option.bind_some, if_neg (show ¬ (n = 1 ∧ p ≠ 0) by omega), ← List.append_assoc]
    exact ⟨c2, f2, e3, e4⟩
theorem rest7 (h : Wr L c f) (hn : (n : Int) < 9223372036854775808) (hl : L.length ≤ 250) {p : Nat} (hp : p ≤ 4) : ∃ c1 f1, rst7 c f (z6 n) (z3 p) = some (f1, c1) ∧ Wr (L ++ rl n p) c1 f1 := by
  unfold rst7 rl
  have dl := dgs_l hn
  by_cases w2 : p = 0
  · rw [if_pos (by rw [w2]; rfl)]
    obtain ⟨c1, f1, e1, e2⟩ := dig7 (t := 24) h hn (by omega) (by omega)
    obtain ⟨c2, f2, e3, e4⟩ := tail7 e2 (by rw [List.length_append]; omega) hp
    rw [e1, Option.bind_some, if_neg (show ¬ (n = 1 ∧ p ≠ 0) by omega), ← List.append_assoc]
    exact ⟨c2, f2, e3, e4⟩
  · rw [if_neg (fun q => w2 (by have := (z3eq (by omega) (by omega) (by omega) (by omega)).1 (Eq.trans q l3_0); omega))]
    by_cases w1 : n = 1
    · subst w1
      obtain ⟨c2, f2, e3, e4⟩ := tail7 h (by omega) hp
      rw [if_pos (show z6 ((1 : Nat) : Int) = 1 from rfl), if_pos (show (1 : Nat) = 1 ∧ p ≠ 0 from ⟨rfl, w2⟩), List.nil_append]
      exact ⟨c2, f2, e3, e4⟩
    · rw [if_neg (fun q => w1 (by have := (z6eq (by omega) (by omega) (by omega) (by omega)).1 (Eq.trans q l6_1); omega))]
      obtain ⟨c1, f1, e1, e2⟩ := dig7 (t := 24) h hn (by omega) (by omega)
      obtain ⟨c2, f2, e3, e4⟩ := tail7 e2 (by rw [List.length_append]; omega) hp
      rw [e1, Option.bind_some, if_neg (show ¬ (n = 1 ∧ p ≠ 0) by omega), ← List.append_assoc]
      exact ⟨c2, f2, e3, e4⟩
/-- a term -/
noncomputable def trm (L : List Int) (v : Int) (p : Nat) : List Int := L ++ (if 0 ≤ v then (if L.length = 0 then [] else [43]) else [45]) ++ rl v.natAbs p
theorem trm_l {v : Int} (h0 : -9223372036854775807 ≤ v) (h1 : v < 9223372036854775808) {p : Nat} (hp : p ≤ 4) : (trm L v p).length ≤ L.length + 41 := by
  have := rl_l (n := v.natAbs) (p := p) (by omega) hp
  unfold trm
  rw [List.length_append, List.length_append]
  have : (if 0 ≤ v then (if L.length = 0 then ([] : List Int) else [43]) else [45]).length ≤ 1 := by
    split
    · split <;> decide
    · decide
  omega
theorem trm3 (h : Wr L c f) {v : Int} (h0 : -9223372036854775807 ≤ v) (h1 : v < 9223372036854775808) (hv : v ≠ 0) (hl : L.length ≤ 245) {p : Nat} (hp : p ≤ 4) : ∃ c1 f1, mX4_putTerm c f (z6 v) (z3 p) = some (c1, f1) ∧ Wr (trm L v p) c1 f1 := by
  rw [term3, if_neg (fun q => hv ((z6eq (by omega) (by omega) (by omega) (by omega)).1 (Eq.trans q l6_0))), zabs6 h0 h1]
  unfold trm
  by_cases w : 0 ≤ v
  · rw [if_pos (l6_0 ▸ (z6le (by omega) (by omega) (by omega) (by omega)).2 w), if_pos w, h.1]
    by_cases q : L.length = 0
    · rw [if_pos (by rw [q]; decide), if_pos q, List.append_nil, ← h.1]
      exact rest3 h (by omega) (by omega) hp
    · rw [if_neg (fun z => q (by have := (z3le (by omega) (by omega) (by omega) (by omega)).1 (l3_0 ▸ z); omega)), if_neg q, ← h.1]
      obtain ⟨c1, f1, e1, e2⟩ := put4 h (by omega) (v := 43) (by omega) (by omega)
      rw [show (43 : Int32) = z3 43 from rfl, e1, Option.bind_some]
      exact rest3 e2 (by omega) (by rw [List.length_append]; show L.length + 1 ≤ 250; omega) hp
  · rw [if_neg (fun q => w ((z6le (by omega) (by omega) (by omega) (by omega)).1 (l6_0 ▸ q))), if_neg w]
    obtain ⟨c1, f1, e1, e2⟩ := put4 h (by omega) (v := 45) (by omega) (by omega)
    rw [l3_45, e1, Option.bind_some]
    exact rest3 e2 (by omega) (by rw [List.length_append]; show L.length + 1 ≤ 250; omega) hp
theorem trm7 (h : Wr L c f) {k : Nat → Int64} {v : Int} (h0 : -9223372036854775807 ≤ v) (h1 : v < 9223372036854775808) (hl : L.length ≤ 245) {p : Nat} (hp : p ≤ 4) (hk : k p = z6 v) : ∃ c1 f1, mX7_saysPower k f c (z3 p) = some (f1, c1) ∧ Wr (trm L v p) c1 f1 := by
  have hk' : k (Int32.toNatClampNeg (z3 p)) = z6 v := by
    rw [z3nat (by omega) (by omega)]
    exact hk
  rw [power7 k c f (gix (by omega) (by omega) (by decide)), hk', zabs6 h0 h1]
  unfold trm
  by_cases w : 0 ≤ v
  · rw [if_pos (l6_0 ▸ (z6le (by omega) (by omega) (by omega) (by omega)).2 w), if_pos w, h.1]
    by_cases q : L.length = 0
    · rw [if_pos (by rw [q]; decide), if_pos q, List.append_nil, ← h.1]
      exact rest7 h (by omega) (by omega) hp
    · rw [if_neg (fun z => q (by have := (z3le (by omega) (by omega) (by omega) (by omega)).1 (l3_0 ▸ z); omega)), if_neg q, ← h.1]
      obtain ⟨c1, f1, e1, e2⟩ := says7 h (by omega) 43
      rw [show (43 : Int32) = z3 43 from rfl, e1, Option.bind_some]
      exact rest7 e2 (by omega) (by rw [List.length_append]; show L.length + 1 ≤ 250; omega) hp
  · rw [if_neg (fun q => w ((z6le (by omega) (by omega) (by omega) (by omega)).1 (l6_0 ▸ q))), if_neg w]
    obtain ⟨c1, f1, e1, e2⟩ := says7 h (by omega) 45
    rw [l3_45, e1, Option.bind_some]
    exact rest7 e2 (by omega) (by rw [List.length_append]; show L.length + 1 ≤ 250; omega) hp
end RST
