/-! Statements and the text. -/
theorem StG.lB {len st : Int} {g : Nat → Int32} {A : Option T12} {B : Option T9} (h : StG len g st A B) : (B.bind fun r => if ¬ (r.1 = 0 ∨ r.1 = 1) then none else some (r.1, r.2.1, r.2.2.1, r.2.2.2.1, r.2.2.2.2.1, r.2.2.2.2.2.1, r.2.2.2.2.2.2.1, r.2.2.2.2.2.2.2.1, r.2.2.2.2.2.2.2.2)) = B := by
  rcases h with ⟨a, p', st', tk', c, d, m, ws, xs, ys, nr, s, sx, w, _, _, _, _, _, _, e⟩ | ⟨k0, q0, r, r9, _, _, _, _, _, _, e, e2⟩
  · rw [e, Option.bind_some, if_neg (fun z => z (Or.inr rfl))]
  · have q : r9.1 = 0 ∨ r9.1 = 1 := e2.elim (fun z => Or.inl z.1) (fun z => Or.inr z.1)
    rw [e, Option.bind_some, if_neg (fun z => z q)]
section LOP
variable {len : Int} {f g : Nat → Int32} {bv : Int → Int}
theorem N7.m0 {a : AZ} {s : Nat → Int32} (h : N7 a s) (M D : Int) {s1 : Nat → Int32} (e0 : s1 0 = z3 M) (e1 : s1 1 = z3 D) (e : ∀ i : Nat, 2 ≤ i → s1 i = s i) : N7 (zC a, M, D, zX a, zY a, zW a) s1 := by
  obtain ⟨s0, s1', s2, hx, hy, hw⟩ := h
  refine ⟨e0, e1, (e 2 (by omega)).trans s2, hx.cg (fun k k0 k1 => e _ (by omega)), hy.cg (fun k k0 k1 => e _ (by omega)), hw.cg (fun k k0 k1 => e _ (by omega))⟩
theorem stmtZ (hB : Bt len f g bv) (l0 : 0 ≤ len) (l1 : len ≤ 400) {p t st nx v : Int} (p0 : 0 ≤ p) (T : TkZ len f g p t st nx v) {a : AZ} {c dg md : Int32} {ws xs ys s : Nat → Int32} (hO : OkZ a) (h3 : N3 a c dg md ws xs ys) (h7 : N7 a s) {n3 n7 : Int32} (en3 : t ≠ 0 → n3 = z3 nx) (en7 : t ≠ 0 → n7 = z3 nx) (nr w : Int32) (ht : t ≠ 0) :
    StG len g st (mX5_readStatement f 0 (-1) (z3 len) n3 (z3 st) (z3 (ctk t)) c dg md ws xs ys) (mX7_statement g 0 (z3 len) n7 nr (-1) s (z3 st) (z3 t) w) := by
  have en3 := en3 ht
  have en7 := en7 ht
  subst en3 en7
  obtain ⟨b0, b01, b02, b03⟩ := iswZ hB l0 l1 p0 T 0 5 rfl (by decide)
  obtain ⟨b1, b11, b12, b13⟩ := iswZ hB l0 l1 p0 T 1 7 rfl (by decide)
  obtain ⟨b2, b21, b22, b23⟩ := iswZ hB l0 l1 p0 T 2 8 rfl (by decide)
  obtain ⟨b3, b31, b32, b33⟩ := iswZ hB l0 l1 p0 T 3 6 rfl (by decide)
  obtain ⟨A0, B0⟩ := b02 (z3 nx) (fun _ => rfl)
  obtain ⟨A1, B1⟩ := b12 (z3 nx) (fun _ => rfl)
  obtain ⟨A2, B2⟩ := b22 (z3 nx) (fun _ => rfl)
  obtain ⟨A3, B3⟩ := b32 (z3 nx) (fun _ => rfl)
  have z10 : ¬ z3 1 = 0 := by decide
  have z00 : z3 0 = 0 := rfl
  have nt0 : Int32.toNatClampNeg 0 = 0 := by decide
  have nt1 : Int32.toNatClampNeg 1 = 1 := by decide
  have g0 : ¬ ((0 : Int32) < 0 ∨ 18 ≤ Int32.toNatClampNeg 0) := by decide
  have g1 : ¬ ((1 : Int32) < 0 ∨ 18 ≤ Int32.toNatClampNeg 1) := by decide
  have Ts := T.s0
  have Tn := T.n ht
  have hO' := hO
  obtain ⟨h0, h5, m0, m1, d0, d1, hr, hry, hrw, hi⟩ := hO'
  have h3' := h3
  obtain ⟨hc, hd, hm, hw, hx, hy⟩ := h3'
  have h7' := h7
  obtain ⟨s0, s1, s2, tx, ty, tw⟩ := h7'
  obtain ⟨t1, st1, nx1, v1, T1⟩ := tokenZ hB l0 l1 (p := nx) (by omega) Tn.2
  obtain ⟨n1, w1, R1, rn1, rw1⟩ := T1.r (z3 st) (z3 t) w
  have S1 := T1.s0
  rcases b01 with rfl | rfl
  · rcases b31 with rfl | rfl
    · rcases b11 with rfl | rfl
      · rcases b21 with rfl | rfl
        · refine stg_f (k0 := fke t) st (fke_b t).1 (fke_b t).2 ?_ ?_
          · unfold mX5_readStatement
            rw [A0, Option.bind_some, if_pos z00, A1, Option.bind_some, if_pos z00, A2, Option.bind_some, if_pos z00, A3, Option.bind_some, if_pos z00, fai3 T, Option.bind_some, if_neg (fun z => z (Or.inl rfl))]
            exact ⟨_, rfl, rfl, rfl, rfl⟩
          · unfold mX7_statement
            rw [B0, Option.bind_some, if_pos z00, B3, Option.bind_some, if_pos z00, B1, Option.bind_some, if_pos z00, B2, Option.bind_some, if_pos z00, fai7 T, Option.bind_some, if_neg (fun z => z (Or.inl rfl))]
            exact ⟨_, rfl, rfl, rfl, rfl⟩
        · refine stg_c T1 (by omega) (a := (zC a, 2, zD a, zX a, zY a, zW a)) ⟨h0, h5, by show (0 : Int) ≤ 2; omega, by show (2 : Int) ≤ 2; omega, d0, d1, hr, hry, hrw, hi⟩ (m := 2) (s := upd s 0 2) ⟨hc, hd, rfl, hw, hx, hy⟩ (h7.m0 2 (zD a) (upd_s _ _ _) ((upd_n (by omega)).trans s1) (fun i i2 => upd_n (by omega))) (fun e => ?_) (fun e => ?_) ⟨n1, nr, w1, ?_, rn1⟩
          · unfold mX5_readStatement
            rw [A0, Option.bind_some, if_pos z00, A1, Option.bind_some, if_pos z00, A2, Option.bind_some, if_neg z10, if_pos rfl, (sem3 T1 _ _ _).1 e, Option.bind_some, if_neg n10]
            exact ⟨_, _, rfl⟩
          · obtain ⟨ns, es⟩ := (sem3 T1 (-1) (z3 st) (z3 (ctk t))).2 e
            unfold mX5_readStatement
            rw [A0, Option.bind_some, if_pos z00, A1, Option.bind_some, if_pos z00, A2, Option.bind_some, if_neg z10, if_pos rfl, es, Option.bind_some, if_pos rfl]
            exact ⟨_, rfl, rfl, rfl, rfl⟩
          · unfold mX7_statement mX7_modeStatement
            rw [B0, Option.bind_some, if_pos z00, B3, Option.bind_some, if_pos z00, B1, Option.bind_some, if_pos z00, B2, Option.bind_some, if_neg z10, if_neg g0, R1, Option.bind_some, if_neg (fun z => z (Or.inr rfl)), Option.bind_some, if_neg (fun z => z (Or.inr rfl)), nt0]
      · refine stg_c T1 (by omega) (a := (zC a, 0, zD a, zX a, zY a, zW a)) ⟨h0, h5, by show (0 : Int) ≤ 0; omega, by show (0 : Int) ≤ 2; omega, d0, d1, hr, hry, hrw, hi⟩ (m := 0) (s := upd s 0 0) ⟨hc, hd, rfl, hw, hx, hy⟩ (h7.m0 0 (zD a) (upd_s _ _ _) ((upd_n (by omega)).trans s1) (fun i i2 => upd_n (by omega))) (fun e => ?_) (fun e => ?_) ⟨n1, nr, w1, ?_, rn1⟩
        · unfold mX5_readStatement
          rw [A0, Option.bind_some, if_pos z00, A1, Option.bind_some, if_neg z10, if_pos rfl, (sem3 T1 _ _ _).1 e, Option.bind_some, if_neg n10]
          exact ⟨_, _, rfl⟩
        · obtain ⟨ns, es⟩ := (sem3 T1 (-1) (z3 st) (z3 (ctk t))).2 e
          unfold mX5_readStatement
          rw [A0, Option.bind_some, if_pos z00, A1, Option.bind_some, if_neg z10, if_pos rfl, es, Option.bind_some, if_pos rfl]
          exact ⟨_, rfl, rfl, rfl, rfl⟩
        · unfold mX7_statement mX7_modeStatement
          rw [B0, Option.bind_some, if_pos z00, B3, Option.bind_some, if_pos z00, B1, Option.bind_some, if_neg z10, if_neg g0, R1, Option.bind_some, if_neg (fun z => z (Or.inr rfl)), Option.bind_some, if_neg (fun z => z (Or.inr rfl)), nt0]
    · obtain ⟨-, lb⟩ := b33 rfl
      have e1 : b1 = 0 := b11.resolve_right (fun z => absurd ((b13 z).2.symm.trans lb) (by decide))
      have e2 : b2 = 0 := b21.resolve_right (fun z => absurd ((b23 z).2.symm.trans lb) (by decide))
      subst e1 e2
      obtain ⟨k1, K1, kn1⟩ := T1.k (z3 st) (z3 (ctk t))
      by_cases ok : t1 = 3 ∧ v1 ≤ 4
      · have D3 := (rdd3 T1 (far := 4) (by omega) (by omega) kn1 (-1)).1 ok
        have D7 := (see7 T1 (lo := 0) (hi := 4) (by omega) (by omega) (by omega) (by omega) rw1 0 n1 nr (-1) 0 (Or.inl rfl)).1 ok
        have D3 : mX5_readDigits f 0 (-1) (z3 len) k1 (z3 st1) (z3 (ctk t1)) 4 = some (z3 v1, 0, -1) := D3
        have D7 : mX7_seesNumber g 0 (z3 len) n1 nr (-1) (z3 st1) (z3 t1) w1 0 4 0 = some (1, 0, n1, w1, -1, z3 st1, z3 t1, w1) := D7
        have vw := T1.w ok.1
        have N1 := T1.n (by omega)
        have kn1 := kn1 (by omega)
        have rn1 := rn1 (by omega)
        have rw1 := rw1 ok.1
        subst kn1 rn1 rw1
        obtain ⟨t2, st2, nx2, v2, T2⟩ := tokenZ hB l0 l1 (p := nx1) (by omega) N1.2
        obtain ⟨n2, w2, R2, rn2, rw2⟩ := T2.r (z3 st1) (z3 t1) (z3 v1)
        refine stg_c T2 (by omega) (a := (zC a, 1, v1, zX a, zY a, zW a)) ⟨h0, h5, by show (0 : Int) ≤ 1; omega, by show (1 : Int) ≤ 2; omega, vw.1, ok.2, hr, hry, hrw, hi⟩ (d := z3 v1) (m := 1) (s := upd (upd s 0 1) 1 (z3 v1)) ⟨hc, rfl, rfl, hw, hx, hy⟩ (h7.m0 1 v1 ((upd_n (by omega)).trans (upd_s _ _ _)) (upd_s _ _ _) (fun i i2 => (upd_n (by omega)).trans (upd_n (by omega)))) (fun e => ?_) (fun e => ?_) ⟨n2, z3 v1, w2, ?_, rn2⟩
        · unfold mX5_readStatement
          rw [A0, Option.bind_some, if_pos z00, A1, Option.bind_some, if_pos z00, A2, Option.bind_some, if_pos z00, A3, Option.bind_some, if_neg z10, K1, Option.bind_some, D3, Option.bind_some, if_pos rfl, (sem3 T2 _ _ _).1 e, Option.bind_some, if_neg n10]
          exact ⟨_, _, rfl⟩
        · obtain ⟨ns, es⟩ := (sem3 T2 (-1) (z3 st1) (z3 (ctk t1))).2 e
          unfold mX5_readStatement
          rw [A0, Option.bind_some, if_pos z00, A1, Option.bind_some, if_pos z00, A2, Option.bind_some, if_pos z00, A3, Option.bind_some, if_neg z10, K1, Option.bind_some, D3, Option.bind_some, if_pos rfl, es, Option.bind_some, if_pos rfl]
          exact ⟨_, rfl, rfl, rfl, rfl⟩
        · unfold mX7_statement mX7_blendStatement
          rw [B0, Option.bind_some, if_pos z00, B3, Option.bind_some, if_neg z10, R1, Option.bind_some, D7, Option.bind_some, if_neg n10, if_neg g0, if_neg g1, R2, Option.bind_some, if_neg (fun z => z (Or.inr rfl)), Option.bind_some, if_neg (fun z => z (Or.inr rfl)), nt0, nt1]
      · have D3 := (rdd3 T1 (far := 4) (by omega) (by omega) kn1 (-1)).2 ok
        obtain ⟨nr1, D7⟩ := (see7 T1 (lo := 0) (hi := 4) (by omega) (by omega) (by omega) (by omega) rw1 0 n1 nr (-1) 0 (Or.inl rfl)).2 ok
        have D3 : mX5_readDigits f 0 (-1) (z3 len) k1 (z3 st1) (z3 (ctk t1)) 4 = some (0, z3 (fkd t1), z3 st1) := D3
        have D7 : mX7_seesNumber g 0 (z3 len) n1 nr (-1) (z3 st1) (z3 t1) w1 0 4 0 = some (0, z3 (fkd t1), n1, nr1, z3 st1, z3 st1, z3 t1, w1) := D7
        have fb : 1 ≤ fkd t1 ∧ fkd t1 ≤ 3 := by
          unfold fkd
          split
          · omega
          · split <;> omega
        refine stg_f (k0 := fkd t1) st1 fb.1 (by omega) ?_ ?_
        · unfold mX5_readStatement
          rw [A0, Option.bind_some, if_pos z00, A1, Option.bind_some, if_pos z00, A2, Option.bind_some, if_pos z00, A3, Option.bind_some, if_neg z10, K1, Option.bind_some, D3, Option.bind_some, if_neg (z3k fb.1 fb.2)]
          exact ⟨_, rfl, rfl, rfl, rfl⟩
        · unfold mX7_statement mX7_blendStatement
          rw [B0, Option.bind_some, if_pos z00, B3, Option.bind_some, if_neg z10, R1, Option.bind_some, D7, Option.bind_some, if_pos rfl, Option.bind_some, if_neg (fun z => z (Or.inl rfl))]
          exact ⟨_, rfl, rfl, rfl, rfl⟩
  · obtain ⟨et, -⟩ := b03 rfl
    subst et
    have P := pointZ hB l0 l1 p0 T hO h3 h7 nr w
    have L := P.lB
    have EA : mX5_readStatement f 0 (-1) (z3 len) (z3 nx) (z3 st) (z3 (ctk 2)) c dg md ws xs ys = (mX5_readPoint f 0 (-1) (z3 len) (z3 nx) (z3 st) (z3 (ctk 2)) c ws xs ys).bind fun r22 => if ¬ (r22.1 = 0 ∨ r22.1 = 1) then none else some (r22.1, r22.2.1, r22.2.2.1, r22.2.2.2.1, r22.2.2.2.2.1, r22.2.2.2.2.2.1, r22.2.2.2.2.2.2.1, dg, md, r22.2.2.2.2.2.2.2.1, r22.2.2.2.2.2.2.2.2.1, r22.2.2.2.2.2.2.2.2.2) := by
      rw [mX5_readStatement, A0, Option.bind_some, if_neg z10]
    have EB : mX7_statement g 0 (z3 len) (z3 nx) nr (-1) s (z3 st) (z3 2) w = mX7_pointStatement g 0 (z3 len) (z3 nx) nr (-1) s (z3 st) (z3 2) w := by
      rw [mX7_statement, B0, Option.bind_some, if_neg z10]
      exact L
    rw [EA, EB]
    exact P
abbrev T11 : Type := Int32 × Int32 × Int32 × Int32 × Int32 × Int32 × Int32 × Int32 × (Nat → Int32) × (Nat → Int32) × (Nat → Int32)
/-- both sides of a text -/
def LoG (A : Option T11) (B : Option T9) : Prop :=
  (∃ a n' st' tk' c d m ws xs ys n nr s sx tx w, OkZ a ∧ N3 a c d m ws xs ys ∧ N7 a s ∧ A = some (0, -1, n', st', tk', c, d, m, ws, xs, ys) ∧ B = some (1, 0, n, nr, -1, s, sx, tx, w)) ∨
  (∃ k0 q0 : Int, ∃ (r : T11) (r9 : T9), 1 ≤ k0 ∧ k0 ≤ 5 ∧ A = some r ∧ r.1 = z3 k0 ∧ r.2.1 = z3 q0 ∧ B = some r9 ∧ r9.1 = 0 ∧ r9.2.1 = z3 k0 ∧ r9.2.2.2.2.1 = z3 q0)
theorem lpe3 (n : Nat) (k fk fp nx st tk c d m : Int32) (ws xs ys : Nat → Int32) : lX5_read_29 (z3 len) f (n + 1) 0 k fk fp nx st tk c d m ws xs ys = some (fk, fp, nx, st, tk, c, d, m, ws, xs, ys) := by
  rw [lX5_read_29]
  by_cases h : 400 < k
  · rw [if_pos h]
  · rw [if_neg h, if_pos rfl]
theorem lpe7 (n : Nat) (fk nx nr ps : Int32) (s : Nat → Int32) (sx tx w : Int32) : lX7_parse_53 (z3 len) g (n + 1) 0 fk nx nr ps s sx tx w = some (0, fk, nx, nr, ps, s, sx, tx, w) := by
  rw [lX7_parse_53, if_pos rfl]
theorem loopZ (hB : Bt len f g bv) (l0 : 0 ≤ len) (l1 : len ≤ 400) : ∀ (m : Nat) (p : Int), 0 ≤ p → p ≤ len → len - p ≤ m → ∀ k : Int, 0 ≤ k → k ≤ p → ∀ i j : Nat, m + 3 ≤ i → m + 3 ≤ j → ∀ (t st nx v : Int), TkZ len f g p t st nx v → ∀ (a : AZ) (c dg md : Int32) (ws xs ys s : Nat → Int32), OkZ a → N3 a c dg md ws xs ys → N7 a s → ∀ (u1 u2 n7 nr w : Int32), (t ≠ 0 → n7 = z3 nx) →
    LoG (lX5_read_29 (z3 len) f i 1 (z3 k) 0 (-1) (z3 p) u1 u2 c dg md ws xs ys) (lX7_parse_53 (z3 len) g j 1 0 n7 nr (-1) s (z3 st) (z3 t) w) := by
  intro m
  induction m with
  | zero =>
    intro p p0 p1 hm k k0 k1 i j hi hj t st nx v T a c dg md ws xs ys s hO h3 h7 u1 u2 n7 nr w en
    obtain ⟨i, rfl⟩ : ∃ q, i = q + 2 := ⟨i - 2, by omega⟩
    obtain ⟨j, rfl⟩ : ∃ q, j = q + 1 := ⟨j - 1, by omega⟩
    have ht : t = 0 := by
      by_cases e : t = 0
      · exact e
      · have := T.n e
        have := T.s0
        omega
    subst ht
    obtain ⟨n3, K, kn⟩ := T.k u1 u2
    refine Or.inl ⟨a, n3, z3 st, 5, c, dg, md, ws, xs, ys, n7, nr, s, z3 st, 0, w, hO, h3, h7, ?_, ?_⟩
    · rw [lX5_read_29, if_neg (fun q => by have := (z3lt (by omega) (by omega) (by omega) (by omega)).1 (l3_400 ▸ q); omega), if_neg n10, K, Option.bind_some, if_pos (show z3 (ctk 0) = 5 from rfl), lpe3]
      rfl
    · rw [lX7_parse_53, if_neg n10, if_pos (show z3 0 = 0 from rfl)]
      rfl
  | succ m ih =>
    intro p p0 p1 hm k k0 k1 i j hi hj t st nx v T a c dg md ws xs ys s hO h3 h7 u1 u2 n7 nr w en
    obtain ⟨i, rfl⟩ : ∃ q, i = q + 2 := ⟨i - 2, by omega⟩
    obtain ⟨j, rfl⟩ : ∃ q, j = q + 2 := ⟨j - 2, by omega⟩
    obtain ⟨n3, K, kn⟩ := T.k u1 u2
    by_cases ht : t = 0
    · subst ht
      refine Or.inl ⟨a, n3, z3 st, 5, c, dg, md, ws, xs, ys, n7, nr, s, z3 st, 0, w, hO, h3, h7, ?_, ?_⟩
      · rw [lX5_read_29, if_neg (fun q => by have := (z3lt (by omega) (by omega) (by omega) (by omega)).1 (l3_400 ▸ q); omega), if_neg n10, K, Option.bind_some, if_pos (show z3 (ctk 0) = 5 from rfl), lpe3]
        rfl
      · rw [lX7_parse_53, if_neg n10, if_pos (show z3 0 = 0 from rfl)]
        rfl
    · have n5 : ¬ z3 (ctk t) = 5 ∧ ¬ z3 t = 0 := by
        rcases T.c with rfl | rfl | rfl | rfl | rfl | rfl
        · exact absurd rfl ht
        · decide
        · decide
        · decide
        · decide
        · decide
      have Ts := T.s0
      have E3 : lX5_read_29 (z3 len) f (i + 2) 1 (z3 k) 0 (-1) (z3 p) u1 u2 c dg md ws xs ys = (mX5_readStatement f 0 (-1) (z3 len) n3 (z3 st) (z3 (ctk t)) c dg md ws xs ys).bind fun r7 => if r7.1 = 0 then lX5_read_29 (z3 len) f (i + 1) 0 (z3 k + 1) r7.2.1 r7.2.2.1 r7.2.2.2.1 r7.2.2.2.2.1 r7.2.2.2.2.2.1 r7.2.2.2.2.2.2.1 r7.2.2.2.2.2.2.2.1 r7.2.2.2.2.2.2.2.2.1 r7.2.2.2.2.2.2.2.2.2.1 r7.2.2.2.2.2.2.2.2.2.2.1 r7.2.2.2.2.2.2.2.2.2.2.2 else lX5_read_29 (z3 len) f (i + 1) 1 (z3 k + 1) r7.2.1 r7.2.2.1 r7.2.2.2.1 r7.2.2.2.2.1 r7.2.2.2.2.2.1 r7.2.2.2.2.2.2.1 r7.2.2.2.2.2.2.2.1 r7.2.2.2.2.2.2.2.2.1 r7.2.2.2.2.2.2.2.2.2.1 r7.2.2.2.2.2.2.2.2.2.2.1 r7.2.2.2.2.2.2.2.2.2.2.2 := by
        rw [lX5_read_29, if_neg (fun q => by have := (z3lt (by omega) (by omega) (by omega) (by omega)).1 (l3_400 ▸ q); omega), if_neg n10, K, Option.bind_some, if_neg n5.1]
      have E7 : lX7_parse_53 (z3 len) g (j + 2) 1 0 n7 nr (-1) s (z3 st) (z3 t) w = (mX7_statement g 0 (z3 len) n7 nr (-1) s (z3 st) (z3 t) w).bind fun r9 => if r9.1 = 0 then lX7_parse_53 (z3 len) g (j + 1) 0 r9.2.1 r9.2.2.1 r9.2.2.2.1 r9.2.2.2.2.1 r9.2.2.2.2.2.1 r9.2.2.2.2.2.2.1 r9.2.2.2.2.2.2.2.1 r9.2.2.2.2.2.2.2.2 else (mX7_closed g r9.2.1 (z3 len) r9.2.2.1 r9.2.2.2.2.1 r9.2.2.2.2.2.2.1 r9.2.2.2.2.2.2.2.1 r9.2.2.2.2.2.2.2.2).bind fun r11 => if r11.1 = 0 then lX7_parse_53 (z3 len) g (j + 1) 0 r11.2.1 r11.2.2.1 r9.2.2.2.1 r11.2.2.2.1 r9.2.2.2.2.2.1 r11.2.2.2.2.1 r11.2.2.2.2.2.1 r11.2.2.2.2.2.2 else lX7_parse_53 (z3 len) g (j + 1) 1 r11.2.1 r11.2.2.1 r9.2.2.2.1 r11.2.2.2.1 r9.2.2.2.2.2.1 r11.2.2.2.2.1 r11.2.2.2.2.2.1 r11.2.2.2.2.2.2 := by
        rw [lX7_parse_53, if_neg n10, if_neg n5.2]
      rw [E3, E7]
      rcases stmtZ hB l0 l1 p0 T hO h3 h7 kn en nr w ht with ⟨a', p', st', tk', c', d', m', ws', xs', ys', nr', s', sx, w', hO', h3', h7', q1, q2, eA, eB⟩ | ⟨k0, q0, r, r9, b1, b2, eA, r1, r2, r3, eB, e2⟩
      · obtain ⟨t2, st2, nx2, v2, T2⟩ := tokenZ hB l0 l1 (p := p') (by omega) q2
        obtain ⟨n2, w2, R2, rn2, rw2⟩ := T2.r sx 4 w'
        have CL : mX7_closed g 0 (z3 len) (z3 p') (-1) sx 4 w' = some (1, 0, n2, -1, z3 st2, z3 t2, w2) := by
          unfold mX7_closed
          rw [if_pos rfl, R2, Option.bind_some, if_neg (fun z => z (Or.inr rfl))]
        rw [eA, eB, Option.bind_some, Option.bind_some, if_neg n10, if_neg n10, CL, Option.bind_some, if_neg n10, l3_1, z3a]
        exact ih p' (by omega) q2 (by omega) (k + 1) (by omega) (by omega) (i + 1) (j + 1) (by omega) (by omega) t2 st2 nx2 v2 T2 a' c' d' m' ws' xs' ys' s' hO' h3' h7' st' tk' n2 nr' w2 rn2
      · rw [eA, eB, Option.bind_some, Option.bind_some, if_pos r1, lpe3]
        rcases e2 with ⟨f1, f2, f3⟩ | ⟨f1, r11, f2, f3, f4, f5⟩
        · rw [if_pos f1, lpe7]
          exact Or.inr ⟨k0, q0, _, _, b1, b2, rfl, r2, r3, rfl, rfl, f2, f3⟩
        · rw [if_neg (by rw [f1]; exact n10), f2, Option.bind_some, if_pos f3, lpe7]
          exact Or.inr ⟨k0, q0, _, _, b1, b2, rfl, r2, r3, rfl, rfl, f4, f5⟩
end LOP
