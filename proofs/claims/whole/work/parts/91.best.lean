/-! Step 30, bestPlace. -/
theorem OkZ.vb {a : AZ} (hO : OkZ a) {x : Int} (x0 : -12 ≤ x) (x1 : x ≤ 12) (hk : kiz (zC a) (zX a) (zY a) (zw a) x ≤ 1) : (vT (zC a) (zX a) (zY a) (zw a) x).natAbs ≤ 124026212545200000 ∧ 0 < vB (zC a) (zX a) (zY a) (zw a) x ∧ vB (zC a) (zX a) (zY a) (zw a) x ≤ 124026212545200000 := by
  have hb := hO.bw
  obtain ⟨h0, h5, m0, m1, d0, d1, hr, hry, hrw, hi⟩ := hO
  exact v_b h0 h5 hr hry hb x0 x1 hk
noncomputable def vTz (a : AZ) (x : Int) : Int := vT (zC a) (zX a) (zY a) (zw a) x
noncomputable def vBz (a : AZ) (x : Int) : Int := vB (zC a) (zX a) (zY a) (zw a) x
def InvP (a : AZ) (k x : Int) (f q rb : Int32) (bB bT rt ro : Int64) : Prop := (f = 0 ∧ rb = 12) ∨ (f = 1 ∧ ∃ t, -9 ≤ t ∧ t ≤ 9 ∧ Fre (zC a) (zX a) k t ∧ kiz (zC (mvd a k t)) (zX (mvd a k t)) (zY (mvd a k t)) (zw (mvd a k t)) x ≤ 1 ∧ q = z3 t ∧ rb = z3 t ∧ bB = z6 (vBz (mvd a k t) x) ∧ bT = z6 (vTz (mvd a k t) x) ∧ rt = z6 (vTz (mvd a k t) x) ∧ ro = z6 (vBz (mvd a k t) x))
theorem bp_go {a : AZ} {c dg md : Int32} {ws xs ys s : Nat → Int32} (hO : OkZ a) (h3 : N3 a c dg md ws xs ys) (h7 : N7 a s) {k x : Int} (k0 : 0 ≤ k) (k1 : k < zC a) (x0 : -12 ≤ x) (x1 : x ≤ 12) : ∀ (m : Nat) (t : Int), t + m = 10 → -9 ≤ t → ∀ i j : Nat, m < i → m < j → ∀ (f q rb : Int32) (aB aT bB bT rt ro lo up : Int64) (u1 : Nat → Int64) (u2 u3 u4 : Int32) (u5 u6 u7 : Nat → Int32) (u8 : Nat → Int64) (u9 : Nat → Int32) (u10 : Nat → Int64) (u11 : Nat → Int32) (u12 : Nat → Int64) (o : Nat → Int32) (w : Nat → Int64), InvP a k x f q rb bB bT rt ro →
    ∃ f1 q1 r rb1 lo1 o1 up1 w1, lX6_bestPlace_20 (z3 k) (z3 x) c md dg ws xs ys i f q (z3 t) aB aT bB bT u1 u2 u3 u4 u5 u6 u7 u8 u9 u10 u11 u12 = some (f1, q1, r) ∧ lX7_placeFor_13 (z3 k) (z3 x) j rb rt ro (z3 t) lo o s up w = some (rb1, lo1, o1, s, up1, w1) ∧ ((f1 = 0 ∧ rb1 = 12) ∨ (f1 = 1 ∧ ∃ y : Int, -9 ≤ y ∧ y ≤ 9 ∧ q1 = z3 y ∧ rb1 = z3 y)) := by
  have O := hO
  obtain ⟨h0, h5, m0, m1, d0, d1, hr, hry, hrw, hi⟩ := O
  have h3' := h3
  obtain ⟨hc, hd, hm, hw, hx, hy⟩ := h3'
  have h7' := h7
  obtain ⟨s0, s1, s2, tx, ty, tw⟩ := h7'
  intro m
  induction m with
  | zero =>
    intro t ht t0 i j hi' hj f q rb aB aT bB bT rt ro lo up u1 u2 u3 u4 u5 u6 u7 u8 u9 u10 u11 u12 o w I
    obtain ⟨i, rfl⟩ : ∃ q, i = q + 1 := ⟨i - 1, by omega⟩
    obtain ⟨j, rfl⟩ : ∃ q, j = q + 1 := ⟨j - 1, by omega⟩
    have cc : (9 : Int32) < z3 t := by rw [l3_9]; exact (z3lt (by omega) (by omega) (by omega) (by omega)).2 (by omega)
    refine ⟨f, q, (aB, aT, bB, bT, u1, u2, u3, u4, u5, u6, u7, u8, u9, u10, u11, u12), rb, lo, o, up, w, ?_, ?_, ?_⟩
    · rw [lX6_bestPlace_20, if_pos cc]
    · rw [lX7_placeFor_13, if_pos cc]
    · rcases I with I | ⟨I1, y, y0, y1, -, -, I2, I3, -⟩
      · exact Or.inl I
      · exact Or.inr ⟨I1, y, y0, y1, I2, I3⟩
  | succ m ih =>
    intro t ht t0 i j hi' hj f q rb aB aT bB bT rt ro lo up u1 u2 u3 u4 u5 u6 u7 u8 u9 u10 u11 u12 o w I
    obtain ⟨i, rfl⟩ : ∃ q, i = q + 1 := ⟨i - 1, by omega⟩
    obtain ⟨j, rfl⟩ : ∃ q, j = q + 1 := ⟨j - 1, by omega⟩
    have cc : ¬ (9 : Int32) < z3 t := fun w => by have := (z3lt (by omega) (by omega) (by omega) (by omega)).1 (l3_9 ▸ w); omega
    have F3 := free3 (x := k) (to := t) h0 h5 hx hr hi (by omega) k1 (by omega) (by omega)
    rw [← hc] at F3
    have F7 := free7 (x := k) (to := t) h0 h5 s2 tx hr hi (by omega) k1 (by omega) (by omega)
    by_cases fr : Fre (zC a) (zX a) k t
    · obtain ⟨den, num, r2, r3, r4, r5, r6, r7, r9, r10, r11, r12, TP, hCr⟩ := tryP3 hO h3 k0 k1 t0 (by omega) fr u1 u2 u3 u4 u5 u6 u7 u8 u9 u10 u11 u12
      have hOt := hO.mv t0 (by omega) fr
      have hbt := hOt.bw
      have Ot := hOt
      obtain ⟨i0, i5, -, -, -, -, ir, iry, irw, ii⟩ := Ot
      obtain ⟨HY, HN⟩ := hasIf_y hO h7 k0 k1 t0 (by omega) fr x0 x1 lo up o w
      by_cases hk : kiz (zC (mvd a k t)) (zX (mvd a k t)) (zY (mvd a k t)) (zw (mvd a k t)) x ≤ 1
      · have P3 : mX0_putValue den num aB aT (z3 x) = some (1, z6 (vBz (mvd a k t) x), z6 (vTz (mvd a k t) x)) := put3y i0 i5 ir iry hbt hCr x0 x1 hk aB aT
        obtain ⟨o2, w2, P7⟩ := HY hk
        have P7 : mX7_hasValueIf lo o s up w (z3 k) (z3 t) (z3 x) = some (1, z6 (vBz (mvd a k t) x), o2, s, z6 (vTz (mvd a k t) x), w2) := P7
        have take : InvP a k x 1 (z3 t) (z3 t) (z6 (vBz (mvd a k t) x)) (z6 (vTz (mvd a k t) x)) (z6 (vTz (mvd a k t) x)) (z6 (vBz (mvd a k t) x)) := Or.inr ⟨rfl, t, t0, by omega, fr, hk, rfl, rfl, rfl, rfl, rfl, rfl⟩
        rcases I with ⟨I1, I2⟩ | ⟨I1, y, y0, y1, fy, hl, I2, I3, I4, I5, I6, I7⟩
        · subst I1 I2
          rw [lX6_bestPlace_20, if_neg cc, F3.1 fr, Option.bind_some, if_neg n10, TP, Option.bind_some, P3, Option.bind_some, if_neg n10, if_pos rfl, lX7_placeFor_13, if_neg cc, F7.1 fr, Option.bind_some, if_neg n10, P7, Option.bind_some, if_neg n10, if_pos rfl, l3_1, z3a]
          exact ih (t + 1) (by omega) (by omega) i j (by omega) (by omega) 1 (z3 t) (z3 t) _ _ _ _ _ _ _ _ _ _ _ _ _ _ _ _ _ _ _ _ _ _ take
        · have keep : InvP a k x f q rb bB bT rt ro := Or.inr ⟨I1, y, y0, y1, fy, hl, I2, I3, I4, I5, I6, I7⟩
          subst I1 I2 I3 I4 I5 I6 I7
          have ny : ¬ z3 y = 12 := fun w => by have := (z3eq (by omega) (by omega) (by omega) (by omega)).1 (Eq.trans w l3_12); omega
          have hOy := hO.mv y0 y1 fy
          have X1 : (vTz (mvd a k t) x * vBz (mvd a k y) x).natAbs < 9223372036854775808 := crossB hOt hOy rfl rfl rfl x0 x1 x0 x1 hk hl
          have X2 : (vTz (mvd a k y) x * vBz (mvd a k t) x).natAbs < 9223372036854775808 := crossB hOy hOt rfl rfl rfl x0 x1 x0 x1 hl hk
          obtain ⟨vx, vx0, vx1⟩ : (vTz (mvd a k t) x).natAbs ≤ 124026212545200000 ∧ 0 < vBz (mvd a k t) x ∧ vBz (mvd a k t) x ≤ 124026212545200000 := hOt.vb x0 x1 hk
          obtain ⟨vy, vy0, vy1⟩ : (vTz (mvd a k y) x).natAbs ≤ 124026212545200000 ∧ 0 < vBz (mvd a k y) x ∧ vBz (mvd a k y) x ≤ 124026212545200000 := hOy.vb x0 x1 hl
          have CM := cmp3 (a := vTz (mvd a k t) x) (b := vBz (mvd a k t) x) (c := vTz (mvd a k y) x) (d := vBz (mvd a k y) x) (by omega) (by omega) (by omega) (by omega)
          have GA := grt7 (a := vTz (mvd a k t) x) (b := vBz (mvd a k t) x) (c := vTz (mvd a k y) x) (d := vBz (mvd a k y) x) (by omega) (by omega) vx0 (by omega) (by omega) (by omega) vy0 (by omega)
          generalize vTz (mvd a k t) x * vBz (mvd a k y) x = A at *
          generalize vTz (mvd a k y) x * vBz (mvd a k t) x = B at *
          rw [lX6_bestPlace_20, if_neg cc, F3.1 fr, Option.bind_some, if_neg n10, TP, Option.bind_some, P3, Option.bind_some, if_neg n10, if_neg n10, CM, Option.bind_some, lX7_placeFor_13, if_neg cc, F7.1 fr, Option.bind_some, if_neg n10, P7, Option.bind_some, if_neg n10, if_neg ny, GA, Option.bind_some]
          by_cases qq : B < A
          · rw [if_pos qq, if_pos qq, if_neg (show ¬ (1 : Int32) ≤ 0 by decide), if_neg n10, l3_1, z3a]
            exact ih (t + 1) (by omega) (by omega) i j (by omega) (by omega) 1 (z3 t) (z3 t) _ _ _ _ _ _ _ _ _ _ _ _ _ _ _ _ _ _ _ _ _ _ take
          · have e0 : (if B < A then (1 : Int32) else if A < B then -1 else 0) ≤ 0 := by
              rw [if_neg qq]
              split <;> decide
            rw [if_pos e0, if_neg qq, if_pos rfl, l3_1, z3a]
            exact ih (t + 1) (by omega) (by omega) i j (by omega) (by omega) 1 (z3 y) (z3 y) _ _ _ _ _ _ _ _ _ _ _ _ _ _ _ _ _ _ _ _ _ _ keep
      · have P3 := put3n i0 i5 ir iry hbt hCr x0 x1 hk aB aT
        obtain ⟨o2, w2, P7⟩ := HN hk
        rw [lX6_bestPlace_20, if_neg cc, F3.1 fr, Option.bind_some, if_neg n10, TP, Option.bind_some, P3, Option.bind_some, if_pos rfl, lX7_placeFor_13, if_neg cc, F7.1 fr, Option.bind_some, if_neg n10, P7, Option.bind_some, if_pos rfl, l3_1, z3a]
        exact ih (t + 1) (by omega) (by omega) i j (by omega) (by omega) f q rb _ _ _ _ _ _ _ _ _ _ _ _ _ _ _ _ _ _ _ _ _ _ I
    · rw [lX6_bestPlace_20, if_neg cc, F3.2 fr, Option.bind_some, if_pos rfl, lX7_placeFor_13, if_neg cc, F7.2 fr, Option.bind_some, if_pos rfl, l3_1, z3a]
      exact ih (t + 1) (by omega) (by omega) i j (by omega) (by omega) f q rb _ _ _ _ _ _ _ _ _ _ _ _ _ _ _ _ _ _ _ _ _ _ I
