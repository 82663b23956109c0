/-! Statements of a text. -/
theorem l3_9z : (9 : Int32) = z3 9 := rfl
theorem l3_20z : (20 : Int32) = z3 20 := rfl
def fke (t : Int) : Int := if t = 1 then 1 else 2
theorem cc4 : z3 (ctk 4) = 4 := rfl
theorem fke_b (t : Int) : 1 ≤ fke t ∧ fke t ≤ 5 := by
  unfold fke
  split <;> omega
/-- an appended point -/
def apd (a : AZ) (x y w : Int) : AZ := (zC a + 1, zM a, zD a, uz (zX a) (zC a) x, uz (zY a) (zC a) y, uz (zW a) (zC a) w)
theorem OkZ.ap {a : AZ} (hO : OkZ a) (h5 : zC a < 5) {x y w : Int} (hf : Fre (zC a) (zX a) (-1) x) (x0 : -9 ≤ x) (x1 : x ≤ 9) (y0 : -20 ≤ y) (y1 : y ≤ 20) (w0 : -9 ≤ w) (w1 : w ≤ 9) : OkZ (apd a x y w) := by
  obtain ⟨h0, _, m0, m1, d0, d1, hr, hry, hrw, hi⟩ := hO
  exact ⟨by show 0 ≤ zC a + 1; omega, by show zC a + 1 ≤ 5; omega, m0, m1, d0, d1, hr.a x0 x1, hry.a y0 y1, hrw.a w0 w1, hi.a hf⟩
theorem N3.ap {a : AZ} {c d m : Int32} {ws xs ys : Nat → Int32} (h0 : 0 ≤ zC a) (h : N3 a c d m ws xs ys) (x y w : Int) : N3 (apd a x y w) (z3 (zC a + 1)) d m (upd ws (zC a).toNat (z3 w)) (upd xs (zC a).toNat (z3 x)) (upd ys (zC a).toNat (z3 y)) := by
  obtain ⟨hc, hd, hm, hw, hx, hy⟩ := h
  have hx' := hx.a (v := x) (Int.le_refl 0) h0
  have hy' := hy.a (v := y) (Int.le_refl 0) h0
  have hw' := hw.a (v := w) (Int.le_refl 0) h0
  rw [show (0 : Int) + zC a = zC a by omega] at hx' hy' hw'
  exact ⟨rfl, hd, hm, hw', hx', hy'⟩
theorem En.cg {b C : Int} {X : Int → Int} {f f2 : Nat → Int32} (h : En b C f X) (e : ∀ k : Int, 0 ≤ k → k < C → f2 (b + k).toNat = f (b + k).toNat) : En b C f2 X := fun k k0 k1 => (e k k0 k1).trans (h k k0 k1)
theorem En.a2 {b C v : Int} {X : Int → Int} {f f2 : Nat → Int32} (h : En b C f X) (b0 : 0 ≤ b) (c0 : 0 ≤ C) (e : ∀ k : Int, 0 ≤ k → k < C → f2 (b + k).toNat = f (b + k).toNat) (ev : f2 (b + C).toNat = z3 v) : En b (C + 1) f2 (uz X C v) := by
  refine (h.a (v := v) b0 c0).cg (fun k k0 k1 => ?_)
  by_cases w : k = C
  · rw [w, upd_s, ev]
  · rw [upd_n (by omega)]
    exact e k k0 (by omega)
theorem N7.ap {a : AZ} {s s1 : Nat → Int32} (h : N7 a s) (h0 : 0 ≤ zC a) (h5 : zC a < 5) {x y w : Int} (e : ∀ i : Nat, i ≠ 2 → i ≠ (3 + zC a).toNat → i ≠ (8 + zC a).toNat → i ≠ (13 + zC a).toNat → s1 i = s i) (e2 : s1 2 = z3 (zC a + 1)) (ex : s1 (3 + zC a).toNat = z3 x) (ey : s1 (8 + zC a).toNat = z3 y) (ew : s1 (13 + zC a).toNat = z3 w) : N7 (apd a x y w) s1 := by
  obtain ⟨s0, s1', s2, hx, hy, hw⟩ := h
  refine ⟨?_, ?_, e2, ?_, ?_, ?_⟩
  · rw [e 0 (by omega) (by omega) (by omega) (by omega)]
    exact s0
  · rw [e 1 (by omega) (by omega) (by omega) (by omega)]
    exact s1'
  · exact hx.a2 (by omega) h0 (fun k k0 k1 => e _ (by omega) (by omega) (by omega) (by omega)) ex
  · exact hy.a2 (by omega) h0 (fun k k0 k1 => e _ (by omega) (by omega) (by omega) (by omega)) ey
  · exact hw.a2 (by omega) h0 (fun k k0 k1 => e _ (by omega) (by omega) (by omega) (by omega)) ew
abbrev T12 : Type := Int32 × Int32 × Int32 × Int32 × Int32 × Int32 × Int32 × Int32 × Int32 × (Nat → Int32) × (Nat → Int32) × (Nat → Int32)
abbrev T9 : Type := Int32 × Int32 × Int32 × Int32 × Int32 × (Nat → Int32) × Int32 × Int32 × Int32
/-- both sides of a statement -/
def StG (len : Int) (g : Nat → Int32) (st : Int) (A : Option T12) (B : Option T9) : Prop :=
  (∃ a p' st' tk' c d m ws xs ys nr s sx w, OkZ a ∧ N3 a c d m ws xs ys ∧ N7 a s ∧ st < p' ∧ p' ≤ len ∧ A = some (1, 0, -1, z3 p', st', tk', c, d, m, ws, xs, ys) ∧ B = some (1, 0, z3 p', nr, -1, s, sx, 4, w)) ∨
  (∃ k0 q0 : Int, ∃ (r : T12) (r9 : T9), 1 ≤ k0 ∧ k0 ≤ 5 ∧ A = some r ∧ r.1 = 0 ∧ r.2.1 = z3 k0 ∧ r.2.2.1 = z3 q0 ∧ B = some r9 ∧
    ((r9.1 = 0 ∧ r9.2.1 = z3 k0 ∧ r9.2.2.2.2.1 = z3 q0) ∨ (r9.1 = 1 ∧ ∃ r11, mX7_closed g r9.2.1 (z3 len) r9.2.2.1 r9.2.2.2.2.1 r9.2.2.2.2.2.2.1 r9.2.2.2.2.2.2.2.1 r9.2.2.2.2.2.2.2.2 = some r11 ∧ r11.1 = 0 ∧ r11.2.1 = z3 k0 ∧ r11.2.2.2.1 = z3 q0)))
section STG
variable {len : Int} {f g : Nat → Int32} {p t st nx v : Int}
theorem fai3 (T : TkZ len f g p t st nx v) (fk fp : Int32) : mX5_fail fk fp (z3 st) (z3 (ctk t)) 2 = some (0, z3 (fke t), z3 st) := by
  unfold mX5_fail
  rcases T.c with rfl | rfl | rfl | rfl | rfl | rfl
  · rw [if_neg (by decide)]; rfl
  · rw [if_pos (by decide)]; rfl
  · rw [if_neg (by decide)]; rfl
  · rw [if_neg (by decide)]; rfl
  · rw [if_neg (by decide)]; rfl
  · rw [if_neg (by decide)]; rfl
theorem fai7 (T : TkZ len f g p t st nx v) (k ps : Int32) : mX7_fail k ps (z3 st) (z3 t) 2 = some (0, z3 (fke t), z3 st) := by
  unfold mX7_fail
  rcases T.c with rfl | rfl | rfl | rfl | rfl | rfl
  · rw [if_neg (by decide)]; rfl
  · rw [if_pos (by decide)]; rfl
  · rw [if_neg (by decide)]; rfl
  · rw [if_neg (by decide)]; rfl
  · rw [if_neg (by decide)]; rfl
  · rw [if_neg (by decide)]; rfl
theorem nc4 (T : TkZ len f g p t st nx v) (h : t ≠ 4) : ¬ z3 (ctk t) = 4 ∧ ¬ z3 t = 4 := by
  rcases T.c with rfl | rfl | rfl | rfl | rfl | rfl
  · decide
  · decide
  · decide
  · decide
  · exact absurd rfl h
  · decide
theorem clo7 (T : TkZ len f g p t st nx v) (h : t ≠ 4) (k n ps w : Int32) : mX7_closed g k (z3 len) n ps (z3 st) (z3 t) w = some (0, z3 (fke t), n, z3 st, z3 st, z3 t, w) := by
  unfold mX7_closed
  rw [if_neg (nc4 T h).2, fai7 T, Option.bind_some, if_neg (fun z => z (Or.inl rfl))]
theorem sem3 (T : TkZ len f g p t st nx v) (fp a b : Int32) :
    (t = 4 → mX5_readSemicolon f 0 fp (z3 len) (z3 p) a b = some (1, 0, fp, z3 nx, z3 st, z3 (ctk t))) ∧
    (t ≠ 4 → ∃ n, mX5_readSemicolon f 0 fp (z3 len) (z3 p) a b = some (0, z3 (fke t), z3 st, n, z3 st, z3 (ctk t))) := by
  obtain ⟨n1, e1, en1⟩ := T.k a b
  constructor
  · rintro rfl
    unfold mX5_readSemicolon
    rw [e1, Option.bind_some, if_pos cc4, en1 (by decide)]
  · intro h
    unfold mX5_readSemicolon
    rw [e1, Option.bind_some, if_neg (nc4 T h).1, fai3 T, Option.bind_some, if_pos rfl]
    exact ⟨_, rfl⟩
theorem stg_c {st0 : Int} {a : AZ} {c d m : Int32} {ws xs ys s : Nat → Int32} {A : Option T12} {B : Option T9} (T : TkZ len f g p t st nx v) (h : st0 < p) (hO : OkZ a) (h3 : N3 a c d m ws xs ys) (h7 : N7 a s)
    (hA4 : t = 4 → ∃ st' tk', A = some (1, 0, -1, z3 nx, st', tk', c, d, m, ws, xs, ys))
    (hAn : t ≠ 4 → ∃ r : T12, A = some r ∧ r.1 = 0 ∧ r.2.1 = z3 (fke t) ∧ r.2.2.1 = z3 st)
    (hB : ∃ n7 nr w, B = some (1, 0, n7, nr, -1, s, z3 st, z3 t, w) ∧ (t ≠ 0 → n7 = z3 nx)) : StG len g st0 A B := by
  obtain ⟨n7, nr, w, eB, en⟩ := hB
  by_cases e : t = 4
  · obtain ⟨st', tk', eA⟩ := hA4 e
    have := T.n (by omega)
    have := T.s0
    refine Or.inl ⟨a, nx, st', tk', c, d, m, ws, xs, ys, nr, s, z3 st, w, hO, h3, h7, by omega, by omega, eA, ?_⟩
    rw [eB, en (by omega), e]
    rfl
  · obtain ⟨r, r1, r2, r3, r4⟩ := hAn e
    exact Or.inr ⟨fke t, st, r, _, (fke_b t).1, (fke_b t).2, r1, r2, r3, r4, eB, Or.inr ⟨rfl, _, clo7 T e 0 n7 (-1) w, rfl, rfl, rfl⟩⟩
theorem stg_f {st0 : Int} {A : Option T12} {B : Option T9} {k0 : Int} (q0 : Int) (b1 : 1 ≤ k0) (b2 : k0 ≤ 5) (hA : ∃ r : T12, A = some r ∧ r.1 = 0 ∧ r.2.1 = z3 k0 ∧ r.2.2.1 = z3 q0) (hB : ∃ r : T9, B = some r ∧ r.1 = 0 ∧ r.2.1 = z3 k0 ∧ r.2.2.2.2.1 = z3 q0) : StG len g st0 A B := by
  obtain ⟨r, r1, r2, r3, r4⟩ := hA
  obtain ⟨s, s1, s2, s3, s4⟩ := hB
  exact Or.inr ⟨k0, q0, r, s, b1, b2, r1, r2, r3, r4, s1, Or.inl ⟨s2, s3, s4⟩⟩
/-- a number and the token behind it -/
theorem rsnI {bv : Int → Int} (hB : Bt len f g bv) (l0 : 0 ≤ len) (l1 : len ≤ 400) (p0 : 0 ≤ p) (T : TkZ len f g p t st nx v) {far : Int} (h0 : 0 ≤ far) (h1 : far ≤ 99) :
    (∃ x p' s2 t3 st3 nx3 v3, -far ≤ x ∧ x ≤ far ∧ st < p' ∧ p' ≤ len ∧ TkZ len f g p' t3 st3 nx3 v3 ∧ (∀ fp a b, mX5_readSigned f 0 fp (z3 len) (z3 p) a b (z3 far) = some (z3 x, 0, fp, z3 p', z3 s2, 2)) ∧
      (∀ k n nr ps w S j, (t ≠ 0 → n = z3 nx) → (t = 3 → w = z3 v) → 0 ≤ j → j < 18 → ∃ n3 w3, mX7_numberInto g k (z3 len) n nr ps S (z3 st) (z3 t) w (z3 j) (z3 far) = some (1, k, n3, z3 x, ps, upd S j.toNat (z3 x), z3 st3, z3 t3, w3) ∧ (t3 ≠ 0 → n3 = z3 nx3) ∧ (t3 = 3 → w3 = z3 v3))) ∨
    (∃ k0 s2, 1 ≤ k0 ∧ k0 ≤ 3 ∧ (∀ fp a b, ∃ x n c d, mX5_readSigned f 0 fp (z3 len) (z3 p) a b (z3 far) = some (x, z3 k0, z3 s2, n, c, d)) ∧
      (∀ k n nr ps w S j, (t ≠ 0 → n = z3 nx) → (t = 3 → w = z3 v) → ∃ n1 nr1 c d e, mX7_numberInto g k (z3 len) n nr ps S (z3 st) (z3 t) w (z3 j) (z3 far) = some (0, z3 k0, n1, nr1, z3 s2, S, c, d, e))) := by
  rcases rsnZ hB l0 l1 p0 T h0 h1 with ⟨x, p', s2, a1, a2, a3, a4, a5, a6⟩ | ⟨k0, s2, b1, b2, b3, b4⟩
  · have := T.s0
    obtain ⟨t3, st3, nx3, v3, T3⟩ := tokenZ hB l0 l1 (p := p') (by omega) a4
    refine Or.inl ⟨x, p', s2, t3, st3, nx3, v3, a1, a2, a3, a4, T3, a5, fun k n nr ps w S j hn hw j0 j1 => ?_⟩
    obtain ⟨c, e⟩ := a6 k n nr ps w hn hw
    obtain ⟨n3, w3, e3, en, ew⟩ := T3.r (z3 s2) 3 c
    refine ⟨n3, w3, ?_, en, ew⟩
    unfold mX7_numberInto
    rw [z3n, e, Option.bind_some, if_neg n10, if_neg (gix j0 (by omega) (by decide)), e3, Option.bind_some, if_neg (fun z => z (Or.inr rfl)), z3nat (by omega) (by omega)]
  · refine Or.inr ⟨k0, s2, b1, b2, b3, fun k n nr ps w S j hn hw => ?_⟩
    obtain ⟨n1, nr1, c, d, e, q⟩ := b4 k n nr ps w hn hw
    unfold mX7_numberInto
    rw [z3n, q, Option.bind_some, if_pos rfl]
    exact ⟨_, _, _, _, _, rfl⟩
theorem z3k {k : Int} (h1 : 1 ≤ k) (h2 : k ≤ 3) : ¬ z3 k = 0 := fun w => by
  have := (z3eq (by omega) (by omega) (by omega) (by omega)).1 (Eq.trans w l3_0)
  omega
/-- the statement point -/
theorem pointZ {bv : Int → Int} (hB : Bt len f g bv) (l0 : 0 ≤ len) (l1 : len ≤ 400) (p0 : 0 ≤ p) (T : TkZ len f g p 2 st nx v) {a : AZ} {c dg md : Int32} {ws xs ys s : Nat → Int32} (hO : OkZ a) (h3 : N3 a c dg md ws xs ys) (h7 : N7 a s) (nr w : Int32) :
    StG len g st ((mX5_readPoint f 0 (-1) (z3 len) (z3 nx) (z3 st) (z3 (ctk 2)) c ws xs ys).bind fun r22 => if ¬ (r22.1 = 0 ∨ r22.1 = 1) then none else some (r22.1, r22.2.1, r22.2.2.1, r22.2.2.2.1, r22.2.2.2.2.1, r22.2.2.2.2.2.1, r22.2.2.2.2.2.2.1, dg, md, r22.2.2.2.2.2.2.2.1, r22.2.2.2.2.2.2.2.2.1, r22.2.2.2.2.2.2.2.2.2)) (mX7_pointStatement g 0 (z3 len) (z3 nx) nr (-1) s (z3 st) (z3 2) w) := by
  have hN3 := h3
  have hN7 := h7
  have hOk := hO
  obtain ⟨rfl, hd, hm, hw, hx, hy⟩ := h3
  obtain ⟨s0, s1, s2, tx, ty, tw⟩ := h7
  obtain ⟨h0, h5, m0, m1, d0, d1, hr, hry, hrw, hi⟩ := hO
  obtain ⟨g2, f2⟩ := s2c s2
  have Ts := T.s0
  have Tn := T.n (by decide)
  by_cases c5 : zC a < 5
  · have IF : mX3_isFull (z3 (zC a)) = some 0 := by
      unfold mX3_isFull
      rw [if_pos (by rw [l3_5]; exact (z3lt (by omega) (by omega) (by omega) (by omega)).2 c5)]
    have v5 : ¬ z3 (zC a) = 5 := fun q => by have := (z3eq (by omega) (by omega) (by omega) (by omega)).1 (Eq.trans q l3_5); omega
    obtain ⟨t1, st1, nx1, v1, T1⟩ := tokenZ hB l0 l1 (p := nx) (by omega) Tn.2
    obtain ⟨n1, w1, A1, en1, ew1⟩ := T1.r (z3 st) (z3 2) w
    have S1 := T1.s0
    rcases rsnZ hB l0 l1 (by omega) T1 (far := 9) (by omega) (by omega) with ⟨x, px, sx, x0, x1, x2, x3, X3, X7⟩ | ⟨k0, q0, b1, b2, X3, X7⟩
    · obtain ⟨cx, X7⟩ := X7 0 n1 nr (-1) w1 en1 ew1
      have X3 : ∀ fp a b, mX5_readSigned f 0 fp (z3 len) (z3 nx) a b 9 = some (z3 x, 0, fp, z3 px, z3 sx, 2) := X3
      have X7 : mX7_seesNumber g 0 (z3 len) n1 nr (-1) (z3 st1) (z3 t1) w1 (-9) 9 1 = some (1, 0, z3 px, z3 x, -1, z3 sx, 3, cx) := X7
      by_cases dup : ∃ k, 0 ≤ k ∧ k < zC a ∧ zX a k = x
      · obtain ⟨k, k0, k1, ke⟩ := dup
        have FD := find3_y h0 h5 hx hr hi k0 k1 ke
        have FE := find7_y h0 h5 s2 tx hr hi k0 k1 ke
        refine stg_f (k0 := 4) sx (by omega) (by omega) ?_ ?_
        · unfold mX5_readPoint
          rw [IF, Option.bind_some, if_pos rfl, X3, Option.bind_some, if_pos rfl]
          rw [FD, Option.bind_some, if_neg (z3m1 k0 (by omega)), show ∀ e : Int32, mX5_fail 0 e (z3 sx) 2 4 = some (0, 4, z3 sx) from fun _ => rfl, Option.bind_some, if_neg (fun z => z (Or.inl rfl)), Option.bind_some, if_neg (fun z => z (Or.inl rfl))]
          exact ⟨_, rfl, rfl, rfl, rfl⟩
        · unfold mX7_pointStatement
          rw [if_neg g2, f2, if_neg v5, A1, Option.bind_some, X7, Option.bind_some, if_neg n10]
          rw [FE, Option.bind_some, if_neg (z3m1 k0 (by omega)), show ∀ e : Int32, mX7_fail 0 e (z3 sx) 3 4 = some (0, 4, z3 sx) from fun _ => rfl, Option.bind_some, if_neg (fun z => z (Or.inl rfl))]
          exact ⟨_, rfl, rfl, rfl, rfl⟩
      · have fr : ∀ k, 0 ≤ k → k < zC a → zX a k ≠ x := fun k k0 k1 e => dup ⟨k, k0, k1, e⟩
        have FD := find3_n h0 h5 hx hr fr (by omega) (by omega)
        have FE := find7_n h0 h5 s2 tx hr fr (by omega) (by omega)
        have hf : Fre (zC a) (zX a) (-1) x := fun k k0 k1 _ => fr k k0 k1
        have t3 : (3 : Int32) + z3 (zC a) = z3 (3 + zC a) := by rw [l3_3, z3a]
        have t8 : (8 : Int32) + z3 (zC a) = z3 (8 + zC a) := by rw [l3_8, z3a]
        have t13 : (13 : Int32) + z3 (zC a) = z3 (13 + zC a) := by rw [l3_13, z3a]
        have nt2 : Int32.toNatClampNeg 2 = 2 := by decide
        obtain ⟨t2, st2, nx2, v2, T2⟩ := tokenZ hB l0 l1 (p := px) (by omega) x3
        obtain ⟨n2, w2, A2, en2, ew2⟩ := T2.r (z3 sx) 3 cx
        have S2 := T2.s0
        rcases rsnI hB l0 l1 (by omega) T2 (far := 20) (by omega) (by omega) with ⟨y, py, sy, t4, st4, nx4, v4, y0, y1, y2, y3, T4, Y3, Y7⟩ | ⟨k0, q0, b1, b2, Y3, Y7⟩
        · obtain ⟨n4, w4, Y7, en4, ew4⟩ := Y7 0 n2 (z3 x) (-1) w2 (upd s (3 + zC a).toNat (z3 x)) (8 + zC a) en2 ew2 (by omega) (by omega)
          have Y3 : ∀ fp a b, mX5_readSigned f 0 fp (z3 len) (z3 px) a b 20 = some (z3 y, 0, fp, z3 py, z3 sy, 2) := Y3
          obtain ⟨m4, K4, em4⟩ := T4.k (z3 sy) 2
          have S4 := T4.s0
          obtain ⟨bw, bw1, bw2, bw3⟩ := iswZ hB l0 l1 (by omega) T4 4 9 rfl (by decide)
          have W3 := (bw2 m4 em4).1
          have W7 := (bw2 n4 en4).2
          have AP : ∀ wv : Int, mX3_append (z3 (zC a)) ws xs ys (z3 x) (z3 y) (z3 wv) = some (z3 (zC a + 1), upd ws (zC a).toNat (z3 wv), upd xs (zC a).toNat (z3 x), upd ys (zC a).toNat (z3 y)) := fun wv => by
            unfold mX3_append
            rw [IF, Option.bind_some, if_pos rfl, l3_1, z3a, z3s, show zC a + 1 - 1 = zC a by omega, putX3 _ h0 c5, Option.bind_some, putY3 _ h0 c5, Option.bind_some, putW3 _ h0 c5]
            rfl
          rcases bw1 with rfl | rfl
          · have AP := AP 1
            have AP : mX3_append (z3 (zC a)) ws xs ys (z3 x) (z3 y) 1 = some (z3 (zC a + 1), upd ws (zC a).toNat (z3 1), upd xs (zC a).toNat (z3 x), upd ys (zC a).toNat (z3 y)) := AP
            have eS2 : upd (upd (upd s (3 + zC a).toNat (z3 x)) (8 + zC a).toNat (z3 y)) (13 + zC a).toNat 1 2 = z3 (zC a) := by
              rw [upd_n (by omega), upd_n (by omega), upd_n (by omega)]
              exact s2
            refine stg_c T4 (by omega) (hOk.ap c5 hf x0 x1 y0 y1 (w := 1) (by omega) (by omega)) (hN3.ap h0 x y 1) (s := upd (upd (upd (upd s (3 + zC a).toNat (z3 x)) (8 + zC a).toNat (z3 y)) (13 + zC a).toNat 1) 2 (z3 (zC a + 1))) (hN7.ap h0 c5 (fun i i1 i2 i3 i4 => ?_) (upd_s _ _ _) ?_ ?_ ?_) (fun e => ?_) (fun e => ?_) ⟨n4, z3 y, w4, ?_, en4⟩
            · rw [upd_n (by omega), upd_n (by omega), upd_n (by omega), upd_n (by omega)]
            · rw [upd_n (by omega), upd_n (by omega), upd_n (by omega), upd_s]
            · rw [upd_n (by omega), upd_n (by omega), upd_s]
            · rw [upd_n (by omega), upd_s]
              rfl
            · unfold mX5_readPoint
              rw [IF, Option.bind_some, if_pos rfl, X3, Option.bind_some, if_pos rfl]
              rw [FD, Option.bind_some, if_pos rfl, if_pos rfl, Y3, Option.bind_some, if_pos rfl, K4, Option.bind_some]
              rw [W3, Option.bind_some, if_pos l3_0.symm, AP, Option.bind_some, if_pos (show z3 (ctk t4) = 4 by rw [e]; rfl), em4 (by omega), Option.bind_some, if_neg (fun z => z (Or.inr rfl))]
              exact ⟨_, _, rfl⟩
            · unfold mX5_readPoint
              rw [IF, Option.bind_some, if_pos rfl, X3, Option.bind_some, if_pos rfl]
              rw [FD, Option.bind_some, if_pos rfl, if_pos rfl, Y3, Option.bind_some, if_pos rfl, K4, Option.bind_some]
              rw [W3, Option.bind_some, if_pos l3_0.symm, AP, Option.bind_some, if_neg (nc4 T4 e).1, fai3 T4, Option.bind_some, if_pos rfl, Option.bind_some, if_neg (fun z => z (Or.inl rfl))]
              exact ⟨_, rfl, rfl, rfl, rfl⟩
            · unfold mX7_pointStatement
              rw [if_neg g2, f2, if_neg v5, A1, Option.bind_some, X7, Option.bind_some, if_neg n10]
              rw [FE, Option.bind_some, if_pos rfl, t3, if_neg (gix (by omega) (by omega) (by decide)), A2, Option.bind_some, z3nat (by omega) (by omega), t8, l3_20z, Y7, Option.bind_some, if_neg n10, t13, if_neg (gix (by omega) (by omega) (by decide))]
              rw [W7, Option.bind_some, if_pos l3_0.symm, if_neg g2, if_neg g2, z3nat (by omega) (by omega), nt2, eS2, l3_1, z3a]
          · obtain ⟨e4, -⟩ := bw3 rfl
            have em4 := em4 (by omega)
            have en4 := en4 (by omega)
            subst em4 en4
            have N4 := T4.n (by omega)
            obtain ⟨t5, st5, nx5, v5', T5⟩ := tokenZ hB l0 l1 (p := nx4) (by omega) N4.2
            obtain ⟨n5, w5, A5, en5, ew5⟩ := T5.r (z3 st4) (z3 t4) w4
            have S5 := T5.s0
            rcases rsnI hB l0 l1 (by omega) T5 (far := 9) (by omega) (by omega) with ⟨u, pu, su, t6, st6, nx6, v6, u0, u1, u2, u3, T6, U3, U7⟩ | ⟨k0, q0, b1, b2, U3, U7⟩
            · obtain ⟨n6, w6, U7, en6, ew6⟩ := U7 0 n5 (z3 y) (-1) w5 (upd (upd (upd s (3 + zC a).toNat (z3 x)) (8 + zC a).toNat (z3 y)) (13 + zC a).toNat 1) (13 + zC a) en5 ew5 (by omega) (by omega)
              have U3 : ∀ fp a b, mX5_readSigned f 0 fp (z3 len) (z3 nx4) a b 9 = some (z3 u, 0, fp, z3 pu, z3 su, 2) := U3
              obtain ⟨m6, K6, em6⟩ := T6.k (z3 su) 2
              have AP := AP u
              have eS2 : upd (upd (upd (upd s (3 + zC a).toNat (z3 x)) (8 + zC a).toNat (z3 y)) (13 + zC a).toNat 1) (13 + zC a).toNat (z3 u) 2 = z3 (zC a) := by
                rw [upd_n (by omega), upd_n (by omega), upd_n (by omega), upd_n (by omega)]
                exact s2
              refine stg_c T6 (by omega) (hOk.ap c5 hf x0 x1 y0 y1 (w := u) (by omega) (by omega)) (hN3.ap h0 x y u) (s := upd (upd (upd (upd (upd s (3 + zC a).toNat (z3 x)) (8 + zC a).toNat (z3 y)) (13 + zC a).toNat 1) (13 + zC a).toNat (z3 u)) 2 (z3 (zC a + 1))) (hN7.ap h0 c5 (fun i i1 i2 i3 i4 => ?_) (upd_s _ _ _) ?_ ?_ ?_) (fun e => ?_) (fun e => ?_) ⟨n6, z3 u, w6, ?_, en6⟩
              · rw [upd_n (by omega), upd_n (by omega), upd_n (by omega), upd_n (by omega), upd_n (by omega)]
              · rw [upd_n (by omega), upd_n (by omega), upd_n (by omega), upd_n (by omega), upd_s]
              · rw [upd_n (by omega), upd_n (by omega), upd_n (by omega), upd_s]
              · rw [upd_n (by omega), upd_s]
              · unfold mX5_readPoint
                rw [IF, Option.bind_some, if_pos rfl, X3, Option.bind_some, if_pos rfl]
                rw [FD, Option.bind_some, if_pos rfl, if_pos rfl, Y3, Option.bind_some, if_pos rfl, K4, Option.bind_some]
                rw [W3, Option.bind_some, if_neg (show ¬ z3 1 = 0 by decide), U3, Option.bind_some, if_pos rfl, K6, Option.bind_some, AP, Option.bind_some, if_pos (show z3 (ctk t6) = 4 by rw [e]; rfl), em6 (by omega), Option.bind_some, if_neg (fun z => z (Or.inr rfl))]
                exact ⟨_, _, rfl⟩
              · unfold mX5_readPoint
                rw [IF, Option.bind_some, if_pos rfl, X3, Option.bind_some, if_pos rfl]
                rw [FD, Option.bind_some, if_pos rfl, if_pos rfl, Y3, Option.bind_some, if_pos rfl, K4, Option.bind_some]
                rw [W3, Option.bind_some, if_neg (show ¬ z3 1 = 0 by decide), U3, Option.bind_some, if_pos rfl, K6, Option.bind_some, AP, Option.bind_some, if_neg (nc4 T6 e).1, fai3 T6, Option.bind_some, if_pos rfl, Option.bind_some, if_neg (fun z => z (Or.inl rfl))]
                exact ⟨_, rfl, rfl, rfl, rfl⟩
              · unfold mX7_pointStatement
                rw [if_neg g2, f2, if_neg v5, A1, Option.bind_some, X7, Option.bind_some, if_neg n10]
                rw [FE, Option.bind_some, if_pos rfl, t3, if_neg (gix (by omega) (by omega) (by decide)), A2, Option.bind_some, z3nat (by omega) (by omega), t8, l3_20z, Y7, Option.bind_some, if_neg n10, t13, if_neg (gix (by omega) (by omega) (by decide))]
                rw [W7, Option.bind_some, if_neg (show ¬ z3 1 = 0 by decide), A5, Option.bind_some, z3nat (by omega) (by omega), l3_9z, U7, Option.bind_some, if_neg n10, if_neg g2, if_neg g2, nt2]
                dsimp only
                rw [eS2, l3_1, z3a]
            · obtain ⟨xx, n9, c9, d9, U3⟩ := U3 (-1) (z3 st4) (z3 (ctk t4))
              obtain ⟨n8, nr8, c8, d8, e8, U7⟩ := U7 0 n5 (z3 y) (-1) w5 (upd (upd (upd s (3 + zC a).toNat (z3 x)) (8 + zC a).toNat (z3 y)) (13 + zC a).toNat 1) (13 + zC a) en5 ew5
              have U3 : mX5_readSigned f 0 (-1) (z3 len) (z3 nx4) (z3 st4) (z3 (ctk t4)) 9 = some (xx, z3 k0, z3 q0, n9, c9, d9) := U3
              refine stg_f (k0 := k0) q0 (by omega) (by omega) ?_ ?_
              · unfold mX5_readPoint
                rw [IF, Option.bind_some, if_pos rfl, X3, Option.bind_some, if_pos rfl]
                rw [FD, Option.bind_some, if_pos rfl, if_pos rfl, Y3, Option.bind_some, if_pos rfl, K4, Option.bind_some]
                rw [W3, Option.bind_some, if_neg (show ¬ z3 1 = 0 by decide), U3, Option.bind_some, if_neg (z3k b1 b2), Option.bind_some, if_neg (fun z => z (Or.inl rfl))]
                exact ⟨_, rfl, rfl, rfl, rfl⟩
              · unfold mX7_pointStatement
                rw [if_neg g2, f2, if_neg v5, A1, Option.bind_some, X7, Option.bind_some, if_neg n10]
                rw [FE, Option.bind_some, if_pos rfl, t3, if_neg (gix (by omega) (by omega) (by decide)), A2, Option.bind_some, z3nat (by omega) (by omega), t8, l3_20z, Y7, Option.bind_some, if_neg n10, t13, if_neg (gix (by omega) (by omega) (by decide))]
                rw [W7, Option.bind_some, if_neg (show ¬ z3 1 = 0 by decide), A5, Option.bind_some, z3nat (by omega) (by omega), l3_9z, U7, Option.bind_some, if_pos rfl]
                exact ⟨_, rfl, rfl, rfl, rfl⟩
        · obtain ⟨xx, n9, c9, d9, Y3⟩ := Y3 (-1) (z3 sx) 2
          obtain ⟨n8, nr8, c8, d8, e8, Y7⟩ := Y7 0 n2 (z3 x) (-1) w2 (upd s (3 + zC a).toNat (z3 x)) (8 + zC a) en2 ew2
          have Y3 : mX5_readSigned f 0 (-1) (z3 len) (z3 px) (z3 sx) 2 20 = some (xx, z3 k0, z3 q0, n9, c9, d9) := Y3
          refine stg_f (k0 := k0) q0 (by omega) (by omega) ?_ ?_
          · unfold mX5_readPoint
            rw [IF, Option.bind_some, if_pos rfl, X3, Option.bind_some, if_pos rfl]
            rw [FD, Option.bind_some, if_pos rfl, if_pos rfl, Y3, Option.bind_some, if_neg (z3k b1 b2), Option.bind_some, if_neg (fun z => z (Or.inl rfl))]
            exact ⟨_, rfl, rfl, rfl, rfl⟩
          · unfold mX7_pointStatement
            rw [if_neg g2, f2, if_neg v5, A1, Option.bind_some, X7, Option.bind_some, if_neg n10]
            rw [FE, Option.bind_some, if_pos rfl, t3, if_neg (gix (by omega) (by omega) (by decide)), A2, Option.bind_some, z3nat (by omega) (by omega), t8, l3_20z, Y7, Option.bind_some, if_pos rfl]
            exact ⟨_, rfl, rfl, rfl, rfl⟩
    · obtain ⟨xx, n9, c9, d9, X3⟩ := X3 (-1) (z3 st) (z3 (ctk 2))
      obtain ⟨n8, nr8, c8, d8, e8, X7⟩ := X7 0 n1 nr (-1) w1 en1 ew1
      have X3 : mX5_readSigned f 0 (-1) (z3 len) (z3 nx) (z3 st) (z3 (ctk 2)) 9 = some (xx, z3 k0, z3 q0, n9, c9, d9) := X3
      have X7 : mX7_seesNumber g 0 (z3 len) n1 nr (-1) (z3 st1) (z3 t1) w1 (-9) 9 1 = some (0, z3 k0, n8, nr8, z3 q0, c8, d8, e8) := X7
      refine stg_f (k0 := k0) q0 (by omega) (by omega) ?_ ?_
      · unfold mX5_readPoint
        rw [IF, Option.bind_some, if_pos rfl, X3, Option.bind_some, if_neg (z3k b1 b2), if_neg (z3k b1 b2), if_neg (z3k b1 b2), Option.bind_some, if_neg (fun z => z (Or.inl rfl))]
        exact ⟨_, rfl, rfl, rfl, rfl⟩
      · unfold mX7_pointStatement
        rw [if_neg g2, f2, if_neg v5, A1, Option.bind_some, X7, Option.bind_some, if_pos rfl]
        exact ⟨_, rfl, rfl, rfl, rfl⟩
  · have IF : mX3_isFull (z3 (zC a)) = some 1 := by
      unfold mX3_isFull
      rw [if_neg (fun q => by have := (z3lt (by omega) (by omega) (by omega) (by omega)).1 (l3_5 ▸ q); omega)]
    have v5 : z3 (zC a) = 5 := by rw [show zC a = 5 by omega]; rfl
    refine stg_f (k0 := 5) st (by omega) (by omega) ?_ ?_
    · unfold mX5_readPoint
      rw [IF, Option.bind_some, if_neg n10, show mX5_fail 0 (-1) (z3 st) (z3 (ctk 2)) 5 = some (0, 5, z3 st) from rfl, Option.bind_some, if_neg (fun z => z (Or.inl rfl)), Option.bind_some, if_neg (fun z => z (Or.inl rfl))]
      exact ⟨_, rfl, rfl, rfl, rfl⟩
    · unfold mX7_pointStatement
      rw [if_neg g2, f2, if_pos v5, show mX7_fail 0 (-1) (z3 st) (z3 2) 5 = some (0, 5, z3 st) from rfl, Option.bind_some, if_neg (fun z => z (Or.inl rfl))]
      exact ⟨_, rfl, rfl, rfl, rfl⟩
end STG
