/-! Words and numbers of a text. -/
def fkd (t : Int) : Int := if t = 1 then 1 else if t = 3 then 3 else 2
theorem cc3 : z3 (ctk 3) = 2 := rfl
theorem cc5 : z3 (ctk 5) = 3 := rfl
theorem cc2 : z3 (ctk 2) = 1 := rfl
theorem ct3 : z3 3 = 3 := rfl
theorem ct2 : z3 2 = 2 := rfl
theorem ct5 : z3 5 = 5 := rfl
section SGN
variable {len : Int} {f g : Nat → Int32} {p t st nx v : Int}
theorem TkZ.c (h : TkZ len f g p t st nx v) : t = 0 ∨ t = 1 ∨ t = 2 ∨ t = 3 ∨ t = 4 ∨ t = 5 := by
  have := h.t0
  have := h.t5
  omega
theorem rdd3 (T : TkZ len f g p t st nx v) {far : Int} (h0 : 0 ≤ far) (h1 : far ≤ 99) {n' : Int32} (hn : t ≠ 0 → n' = z3 nx) (fp : Int32) :
    (t = 3 ∧ v ≤ far → mX5_readDigits f 0 fp (z3 len) n' (z3 st) (z3 (ctk t)) (z3 far) = some (z3 v, 0, fp)) ∧
    (¬ (t = 3 ∧ v ≤ far) → mX5_readDigits f 0 fp (z3 len) n' (z3 st) (z3 (ctk t)) (z3 far) = some (0, z3 (fkd t), z3 st)) := by
  constructor
  · rintro ⟨rfl, h⟩
    have hv := T.w rfl
    unfold mX5_readDigits
    rw [if_pos cc3, hn (by decide), T.d rfl, Option.bind_some, if_pos ((z3le (by omega) (by omega) (by omega) (by omega)).2 h)]
  · intro h
    unfold mX5_readDigits mX5_fail
    rcases T.c with rfl | rfl | rfl | rfl | rfl | rfl
    · rw [if_neg (by decide), if_neg (by decide)]
      rfl
    · rw [if_neg (by decide), if_pos (by decide)]
      rfl
    · rw [if_neg (by decide), if_neg (by decide)]
      rfl
    · have hv := T.w rfl
      rw [if_pos cc3, hn (by decide), T.d rfl, Option.bind_some, if_neg (fun z => h ⟨rfl, (z3le (by omega) (by omega) (by omega) (by omega)).1 z⟩), if_neg (by decide)]
      rfl
    · rw [if_neg (by decide), if_neg (by decide)]
      rfl
    · rw [if_neg (by decide), if_neg (by decide)]
      rfl
theorem see7 (T : TkZ len f g p t st nx v) {lo hi : Int} (l0 : -99 ≤ lo) (l1 : lo ≤ 0) (h0 : 0 ≤ hi) (h1 : hi ≤ 99) {w : Int32} (hw : t = 3 → w = z3 v) (k n nr ps p3 : Int32) (h5 : p3 = 0 ∨ t ≠ 5) :
    (t = 3 ∧ v ≤ hi → mX7_seesNumber g k (z3 len) n nr ps (z3 st) (z3 t) w (z3 lo) (z3 hi) p3 = some (1, k, n, w, ps, z3 st, z3 t, w)) ∧
    (¬ (t = 3 ∧ v ≤ hi) → ∃ nr1, mX7_seesNumber g k (z3 len) n nr ps (z3 st) (z3 t) w (z3 lo) (z3 hi) p3 = some (0, z3 (fkd t), n, nr1, z3 st, z3 st, z3 t, w)) := by
  constructor
  · rintro ⟨rfl, h⟩
    have hv := T.w rfl
    have inn : mX7_isIn (Int32.toInt64 w) (Int32.toInt64 (z3 lo)) (Int32.toInt64 (z3 hi)) = some 1 := by
      rw [hw rfl, z364 (by omega) (by omega), z364 (by omega) (by omega), z364 (by omega) (by omega)]
      exact ii_y (by omega) (by omega) (by omega) (by omega) (by omega) (by omega) (by omega)
    unfold mX7_seesNumber
    by_cases c : p3 = 0
    · rw [if_pos c, if_pos rfl, if_pos ct3, if_pos rfl, inn, Option.bind_some, if_neg n10]
    · rw [if_neg c, if_neg (by decide), if_pos rfl, if_pos ct3, if_pos rfl, inn, Option.bind_some, if_neg n10]
  · intro h
    have n3 : t ≠ 3 → ¬ z3 t = 3 := fun q z => q ((z3eq (by have := T.t0; omega) (by have := T.t5; omega) (by omega) (by omega)).1 (Eq.trans z l3_3))
    have n5 : t ≠ 5 → ¬ z3 t = 5 := fun q z => q ((z3eq (by have := T.t0; omega) (by have := T.t5; omega) (by omega) (by omega)).1 (Eq.trans z l3_5))
    have fl : mX7_fail k ps (z3 st) (z3 t) (if t = 3 then 3 else 2) = some (0, z3 (fkd t), z3 st) := by
      unfold mX7_fail
      rcases T.c with rfl | rfl | rfl | rfl | rfl | rfl
      · rw [if_neg (by decide)]; rfl
      · rw [if_pos (by decide)]; rfl
      · rw [if_neg (by decide)]; rfl
      · rw [if_neg (by decide)]; rfl
      · rw [if_neg (by decide)]; rfl
      · rw [if_neg (by decide)]; rfl
    unfold mX7_seesNumber
    by_cases e3 : t = 3
    · have hv := T.w e3
      have inn : mX7_isIn (Int32.toInt64 w) (Int32.toInt64 (z3 lo)) (Int32.toInt64 (z3 hi)) = some 0 := by
        rw [hw e3, z364 (by omega) (by omega), z364 (by omega) (by omega), z364 (by omega) (by omega)]
        exact ii_n (by omega) (by omega) (by omega) (by omega) (by omega) (by omega) (by omega)
      rw [if_pos e3] at fl
      have t3 : z3 t = 3 := by rw [e3]; rfl
      by_cases c : p3 = 0
      · rw [if_pos c, if_pos rfl, if_pos t3, if_pos rfl, inn, Option.bind_some, if_pos rfl, fl, Option.bind_some, if_pos rfl]
        exact ⟨_, rfl⟩
      · rw [if_neg c, if_neg (n5 (by omega)), if_pos rfl, if_pos t3, if_pos rfl, inn, Option.bind_some, if_pos rfl, fl, Option.bind_some, if_pos rfl]
        exact ⟨_, rfl⟩
    · rw [if_neg e3] at fl
      by_cases c : p3 = 0
      · rw [if_pos c, if_pos rfl, if_neg (n3 e3), fl, Option.bind_some, if_neg (fun z => z (Or.inl rfl))]
        exact ⟨_, rfl⟩
      · have t5 : t ≠ 5 := h5.resolve_left c
        rw [if_neg c, if_neg (n5 t5), if_pos rfl, if_neg (n3 e3), fl, Option.bind_some, if_neg (fun z => z (Or.inl rfl))]
        exact ⟨_, rfl⟩
/-- behind a sign -/
theorem see7m {t2 st2 nx2 v2 : Int} (T : TkZ len f g nx t2 st2 nx2 v2) {lo hi : Int} (l0 : -99 ≤ lo) (l1 : lo ≤ 0) (h0 : 0 ≤ hi) (h1 : hi ≤ 99) (w k nr ps sx : Int32) :
    (t2 = 3 ∧ v2 ≤ -lo → ∃ c, mX7_seesNumber g k (z3 len) (z3 nx) nr ps sx 5 w (z3 lo) (z3 hi) 1 = some (1, k, z3 nx2, z3 (-v2), ps, z3 st2, z3 t2, c)) ∧
    (¬ (t2 = 3 ∧ v2 ≤ -lo) → ∃ n1 nr1 c, mX7_seesNumber g k (z3 len) (z3 nx) nr ps sx 5 w (z3 lo) (z3 hi) 1 = some (0, z3 (fkd t2), n1, nr1, z3 st2, z3 st2, z3 t2, c)) := by
  obtain ⟨n', c, e, en, ew⟩ := T.r sx 5 w
  constructor
  · rintro ⟨rfl, h⟩
    have hv := T.w rfl
    have inn : mX7_isIn (Int32.toInt64 (-c)) (Int32.toInt64 (z3 lo)) (Int32.toInt64 (z3 hi)) = some 1 := by
      rw [ew rfl, z3n, z364 (by omega) (by omega), z364 (by omega) (by omega), z364 (by omega) (by omega)]
      exact ii_y (by omega) (by omega) (by omega) (by omega) (by omega) (by omega) (by omega)
    unfold mX7_seesNumber
    rw [if_neg n10, if_pos rfl, if_neg n10, e, Option.bind_some, if_pos ct3, if_neg n10, inn, Option.bind_some, if_neg n10]
    refine ⟨c, ?_⟩
    rw [en (by decide), ew rfl, z3n]
  · intro h
    have n3 : t2 ≠ 3 → ¬ z3 t2 = 3 := fun q z => q ((z3eq (by have := T.t0; omega) (by have := T.t5; omega) (by omega) (by omega)).1 (Eq.trans z l3_3))
    have fl : mX7_fail k ps (z3 st2) (z3 t2) (if t2 = 3 then 3 else 2) = some (0, z3 (fkd t2), z3 st2) := by
      unfold mX7_fail
      rcases T.c with rfl | rfl | rfl | rfl | rfl | rfl
      · rw [if_neg (by decide)]; rfl
      · rw [if_pos (by decide)]; rfl
      · rw [if_neg (by decide)]; rfl
      · rw [if_neg (by decide)]; rfl
      · rw [if_neg (by decide)]; rfl
      · rw [if_neg (by decide)]; rfl
    unfold mX7_seesNumber
    by_cases e3 : t2 = 3
    · have hv := T.w e3
      have inn : mX7_isIn (Int32.toInt64 (-c)) (Int32.toInt64 (z3 lo)) (Int32.toInt64 (z3 hi)) = some 0 := by
        rw [ew e3, z3n, z364 (by omega) (by omega), z364 (by omega) (by omega), z364 (by omega) (by omega)]
        exact ii_n (by omega) (by omega) (by omega) (by omega) (by omega) (by omega) (by omega)
      rw [if_pos e3] at fl
      have t3 : z3 t2 = 3 := by rw [e3]; rfl
      rw [if_neg n10, if_pos rfl, if_neg n10, e, Option.bind_some, if_pos t3, if_neg n10, inn, Option.bind_some, if_pos rfl, fl, Option.bind_some, if_pos rfl]
      exact ⟨_, _, _, rfl⟩
    · rw [if_neg e3] at fl
      rw [if_neg n10, if_pos rfl, if_neg n10, e, Option.bind_some, if_neg (n3 e3), fl, Option.bind_some, if_neg (fun z => z (Or.inl rfl))]
      exact ⟨_, _, _, rfl⟩
/-- a number with a sign, both sides -/
theorem rsnZ {bv : Int → Int} (hB : Bt len f g bv) (l0 : 0 ≤ len) (l1 : len ≤ 400) (p0 : 0 ≤ p) (T : TkZ len f g p t st nx v) {far : Int} (h0 : 0 ≤ far) (h1 : far ≤ 99) :
    (∃ x p' s2, -far ≤ x ∧ x ≤ far ∧ st < p' ∧ p' ≤ len ∧ (∀ fp a b, mX5_readSigned f 0 fp (z3 len) (z3 p) a b (z3 far) = some (z3 x, 0, fp, z3 p', z3 s2, 2)) ∧
      (∀ k n nr ps w, (t ≠ 0 → n = z3 nx) → (t = 3 → w = z3 v) → ∃ c, mX7_seesNumber g k (z3 len) n nr ps (z3 st) (z3 t) w (z3 (-far)) (z3 far) 1 = some (1, k, z3 p', z3 x, ps, z3 s2, 3, c))) ∨
    (∃ k0 s2, 1 ≤ k0 ∧ k0 ≤ 3 ∧ (∀ fp a b, ∃ x n c d, mX5_readSigned f 0 fp (z3 len) (z3 p) a b (z3 far) = some (x, z3 k0, z3 s2, n, c, d)) ∧
      (∀ k n nr ps w, (t ≠ 0 → n = z3 nx) → (t = 3 → w = z3 v) → ∃ n1 nr1 c d e, mX7_seesNumber g k (z3 len) n nr ps (z3 st) (z3 t) w (z3 (-far)) (z3 far) 1 = some (0, z3 k0, n1, nr1, z3 s2, c, d, e))) := by
  have fkb : ∀ x : Int, 1 ≤ fkd x ∧ fkd x ≤ 3 := fun x => by
    unfold fkd
    split
    · omega
    · split <;> omega
  by_cases e5 : t = 5
  · subst e5
    have hn := T.n (by decide)
    obtain ⟨t2, st2, nx2, v2, T2⟩ := tokenZ hB l0 l1 (p := nx) (by have := T.s0; omega) hn.2
    have k5 : ∀ fp a b, ∃ n2, (t2 ≠ 0 → n2 = z3 nx2) ∧ mX5_readSigned f 0 fp (z3 len) (z3 p) a b (z3 far) = (mX5_readDigits f 0 fp (z3 len) n2 (z3 st2) (z3 (ctk t2)) (z3 far)).bind fun r4 => some (-r4.1, r4.2.1, r4.2.2, n2, z3 st2, z3 (ctk t2)) := fun fp a b => by
      obtain ⟨n1, e1, en1⟩ := T.k a b
      obtain ⟨n2, e2, en2⟩ := T2.k (z3 st) (z3 (ctk 5))
      refine ⟨n2, en2, ?_⟩
      unfold mX5_readSigned
      rw [e1, Option.bind_some, if_pos cc5, en1 (by decide), e2, Option.bind_some]
    by_cases ok : t2 = 3 ∧ v2 ≤ far
    · refine Or.inl ⟨-v2, nx2, st2, ?_, ?_, ?_, ?_, fun fp a b => ?_, fun k n nr ps w hn1 hw => ?_⟩
      · omega
      · have := T2.w ok.1
        omega
      · have := T2.n (by omega)
        have := T2.s0
        omega
      · exact (T2.n (by omega)).2
      · obtain ⟨n2, en2, e2⟩ := k5 fp a b
        rw [e2, (rdd3 T2 h0 h1 en2 fp).1 ok, Option.bind_some, en2 (by omega), z3n, ok.1]
        rfl
      · obtain ⟨c, e⟩ := (see7m T2 (lo := -far) (hi := far) (by omega) (by omega) h0 h1 w k nr ps (z3 st)).1 ⟨ok.1, by omega⟩
        refine ⟨c, ?_⟩
        rw [hn1 (by decide), show z3 5 = 5 from rfl, e, ok.1]
        rfl
    · refine Or.inr ⟨fkd t2, st2, (fkb t2).1, (fkb t2).2, fun fp a b => ?_, fun k n nr ps w hn1 hw => ?_⟩
      · obtain ⟨n2, en2, e2⟩ := k5 fp a b
        rw [e2, (rdd3 T2 h0 h1 en2 fp).2 ok, Option.bind_some]
        exact ⟨_, _, _, _, rfl⟩
      · obtain ⟨n1, nr1, c, e⟩ := (see7m T2 (lo := -far) (hi := far) (by omega) (by omega) h0 h1 w k nr ps (z3 st)).2 (fun z => ok ⟨z.1, by omega⟩)
        rw [hn1 (by decide), show z3 5 = 5 from rfl, e]
        exact ⟨_, _, _, _, _, rfl⟩
  · have n3 : ¬ z3 (ctk t) = 3 := by
      rcases T.c with rfl | rfl | rfl | rfl | rfl | rfl
      · decide
      · decide
      · decide
      · decide
      · decide
      · exact absurd rfl e5
    have k5 : ∀ fp a b, ∃ n2, (t ≠ 0 → n2 = z3 nx) ∧ mX5_readSigned f 0 fp (z3 len) (z3 p) a b (z3 far) = (mX5_readDigits f 0 fp (z3 len) n2 (z3 st) (z3 (ctk t)) (z3 far)).bind fun r4 => some (r4.1, r4.2.1, r4.2.2, n2, z3 st, z3 (ctk t)) := fun fp a b => by
      obtain ⟨n1, e1, en1⟩ := T.k a b
      refine ⟨n1, en1, ?_⟩
      unfold mX5_readSigned
      rw [e1, Option.bind_some, if_neg n3]
    by_cases ok : t = 3 ∧ v ≤ far
    · refine Or.inl ⟨v, nx, st, ?_, ok.2, ?_, ?_, fun fp a b => ?_, fun k n nr ps w hn1 hw => ?_⟩
      · have := T.w ok.1
        omega
      · exact (T.n (by omega)).1
      · exact (T.n (by omega)).2
      · obtain ⟨n2, en2, e2⟩ := k5 fp a b
        rw [e2, (rdd3 T h0 h1 en2 fp).1 ok, Option.bind_some, en2 (by omega), ok.1]
        rfl
      · refine ⟨w, ?_⟩
        rw [(see7 T (lo := -far) (hi := far) (by omega) (by omega) h0 h1 hw k n nr ps 1 (Or.inr e5)).1 ok, hn1 (by omega), hw ok.1, ok.1]
        rfl
    · refine Or.inr ⟨fkd t, st, (fkb t).1, (fkb t).2, fun fp a b => ?_, fun k n nr ps w hn1 hw => ?_⟩
      · obtain ⟨n2, en2, e2⟩ := k5 fp a b
        rw [e2, (rdd3 T h0 h1 en2 fp).2 ok, Option.bind_some]
        exact ⟨_, _, _, _, rfl⟩
      · obtain ⟨nr1, e⟩ := (see7 T (lo := -far) (hi := far) (by omega) (by omega) h0 h1 hw k n nr ps 1 (Or.inr e5)).2 ok
        exact ⟨_, _, _, _, _, e⟩
/-- a word, both sides -/
theorem iswZ {bv : Int → Int} (hB : Bt len f g bv) (l0 : 0 ≤ len) (l1 : len ≤ 400) (p0 : 0 ≤ p) (T : TkZ len f g p t st nx v) (i j : Nat) (hij : litB j = litB i) (hl : 1 ≤ (litB i).length ∧ (litB i).length ≤ 20) :
    ∃ b : Int, (b = 0 ∨ b = 1) ∧ (∀ n', (t ≠ 0 → n' = z3 nx) → mX5_isWord f (z3 len) n' (z3 st) (z3 (ctk t)) i = some (z3 b) ∧ mX7_isWord g n' (z3 st) (z3 t) j = some (z3 b)) ∧ (b = 1 → t = 2 ∧ z3 (bv st) = litC i 0) := by
  have hc : litC j = litC i := by
    funext k
    unfold litC
    rw [hij]
  have nL : nI (litB i).length = z3 ((litB i).length : Int) := (Int32.ofInt_eq_ofNat).symm
  have s0 := T.s0
  by_cases e2 : t = 2
  · subst e2
    have hn := T.n (by decide)
    by_cases e : nx - st = (litB i).length
    · have loop : ∀ m : Nat, ∀ k : Int, 0 ≤ k → k + m = (litB i).length → ∀ n, m < n → ∃ b : Nat, (b = 0 ∨ b = 1) ∧ lX5_isWord_28 i (z3 len) (z3 st) f n (z3 k) = some b ∧ lX7_isWord_28 j (z3 st) g n (z3 k) = some b ∧ (b = 1 → ∀ x, k ≤ x → x < (litB i).length → z3 (bv (st + x)) = litC i (z3 x)) := by
        intro m
        induction m with
        | zero =>
          intro k k0 hk n hn2
          obtain ⟨n, rfl⟩ : ∃ q, n = q + 1 := ⟨n - 1, by omega⟩
          refine ⟨1, Or.inr rfl, ?_, ?_, fun _ x x0 x1 => by omega⟩
          · rw [lX5_isWord_28, nL, if_pos ((z3le (by omega) (by omega) (by omega) (by omega)).2 (by omega))]
          · rw [lX7_isWord_28, hij, nL, if_pos ((z3le (by omega) (by omega) (by omega) (by omega)).2 (by omega))]
        | succ m ih =>
          intro k k0 hk n hn2
          obtain ⟨n, rfl⟩ : ∃ q, n = q + 1 := ⟨n - 1, by omega⟩
          have b0 := hB (st + k) (by omega) (by omega)
          have g1 : ¬ z3 ((litB i).length : Int) ≤ z3 k := fun w => by have := (z3le (by omega) (by omega) (by omega) (by omega)).1 w; omega
          have g2 : ¬ (z3 k < 0 ∨ (litB i).length ≤ Int32.toNatClampNeg (z3 k)) := gix k0 (by omega) (by omega)
          have g3 : ¬ (z3 (st + k) < 0 ∨ 400 ≤ Int32.toNatClampNeg (z3 (st + k))) := gix (by omega) (by omega) (by decide)
          have s3 : lX5_isWord_28 i (z3 len) (z3 st) f (n + 1) (z3 k) = if z3 (bv (st + k)) = litC i (z3 k) then lX5_isWord_28 i (z3 len) (z3 st) f n (z3 (k + 1)) else some (0 : Nat) := by
            rw [lX5_isWord_28, nL, if_neg g1, z3a, byte3 hB l0 l1 (by omega) (by omega), Option.bind_some, if_neg g2, l3_1, z3a]
          have s7 : lX7_isWord_28 j (z3 st) g (n + 1) (z3 k) = if z3 (bv (st + k)) = litC i (z3 k) then lX7_isWord_28 j (z3 st) g n (z3 (k + 1)) else some (0 : Nat) := by
            rw [lX7_isWord_28, hij, nL, if_neg g1, z3a, if_neg g3, if_neg g2, l3_1, z3a, z3nat (by omega) (by omega), b0.2.1, hc]
          rw [s3, s7]
          by_cases w : z3 (bv (st + k)) = litC i (z3 k)
          · rw [if_pos w, if_pos w]
            obtain ⟨b, q1, q2, q3, q4⟩ := ih (k + 1) (by omega) (by omega) n (by omega)
            refine ⟨b, q1, q2, q3, fun z x x0 x1 => ?_⟩
            by_cases ex : x = k
            · rw [ex]
              exact w
            · exact q4 z x (by omega) x1
          · rw [if_neg w, if_neg w]
            exact ⟨0, Or.inl rfl, rfl, rfl, fun z => absurd z (by decide)⟩
      obtain ⟨b, q1, q2, q3, q4⟩ := loop (litB i).length 0 (by omega) (by omega) FU (fuel (by omega))
      rcases q1 with rfl | rfl
      · refine ⟨0, Or.inl rfl, fun n' hn' => ?_, fun z => absurd z (by decide)⟩
        unfold mX5_isWord mX7_isWord
        rw [if_pos cc2, if_pos ct2, hn' (by decide), z3s, hij, nL, if_pos (by rw [e]), if_pos (by rw [e]), l3_0, q2, q3]
        exact ⟨rfl, rfl⟩
      · refine ⟨1, Or.inr rfl, fun n' hn' => ?_, fun _ => ⟨rfl, ?_⟩⟩
        · unfold mX5_isWord mX7_isWord
          rw [if_pos cc2, if_pos ct2, hn' (by decide), z3s, hij, nL, if_pos (by rw [e]), if_pos (by rw [e]), l3_0, q2, q3]
          exact ⟨rfl, rfl⟩
        · have := q4 rfl 0 (by omega) (by omega)
          rwa [Int.add_zero] at this
    · refine ⟨0, Or.inl rfl, fun n' hn' => ?_, fun z => absurd z (by decide)⟩
      have g : ¬ z3 (nx - st) = z3 ((litB i).length : Int) := fun z => e ((z3eq (by omega) (by omega) (by omega) (by omega)).1 z)
      unfold mX5_isWord mX7_isWord
      rw [if_pos cc2, if_pos ct2, hn' (by decide), z3s, hij, nL, if_neg g, if_neg g]
      exact ⟨rfl, rfl⟩
  · refine ⟨0, Or.inl rfl, fun n' hn' => ?_, fun z => absurd z (by decide)⟩
    have g1 : ¬ z3 (ctk t) = 1 ∧ ¬ z3 t = 2 := by
      rcases T.c with rfl | rfl | rfl | rfl | rfl | rfl
      · decide
      · decide
      · exact absurd rfl e2
      · decide
      · decide
      · decide
    unfold mX5_isWord mX7_isWord
    rw [if_neg g1.1, if_neg g1.2]
    exact ⟨rfl, rfl⟩
end SGN
