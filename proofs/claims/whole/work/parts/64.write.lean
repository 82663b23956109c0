/-! write, writeValues. -/
theorem Chr.p {L M : List Int} (h : Chr L) (h2 : Chr M) : Chr (L ++ M) := by
  intro v hv
  rcases List.mem_append.1 hv with q | q
  · exact h v q
  · exact h2 v q
theorem Chr.n : Chr [] := fun v hv => absurd hv List.not_mem_nil
theorem Chr.o {v : Int} (h0 : 0 ≤ v) (h1 : v < 65536) : Chr [v] := fun w hw => by
  have : w = v := List.mem_singleton.1 hw
  omega
theorem Chr.d (n : Nat) : Chr (dgs n) := dlx_c _ _
theorem Chr.rl (n p : Nat) : Chr (rl n p) := by
  show Chr ((if n = 1 ∧ p ≠ 0 then [] else dgs n) ++ ((if p = 0 then [] else [120]) ++ (if p ≤ 1 then [] else [94] ++ dgs p)))
  apply Chr.p
  · split
    · exact Chr.n
    · exact Chr.d n
  · apply Chr.p
    · split
      · exact Chr.n
      · exact Chr.o (by omega) (by omega)
    · split
      · exact Chr.n
      · exact (Chr.o (by omega) (by omega)).p (Chr.d p)
theorem Chr.t {L : List Int} (h : Chr L) (v : Int) (p : Nat) : Chr (trm L v p) := by
  unfold trm
  apply Chr.p
  · apply Chr.p h
    split
    · split
      · exact Chr.n
      · exact Chr.o (by omega) (by omega)
    · exact Chr.o (by omega) (by omega)
  · exact Chr.rl _ _
theorem JO.w {L : List Int} {c c2 : Int32} {f f2 : Nat → Int32} (h : Wr L c f) (h2 : Wr L c2 f2) (hc : Chr L) (hl : L.length ≤ 320) : JO c c2 f f2 := by
  refine ⟨L.length, by omega, by omega, h.1, h2.1, fun i i0 i1 => ?_⟩
  have e : L[i.toNat]? = some (L[i.toNat]'(by omega)) := List.getElem?_eq_getElem (by omega)
  have a := h.2 _ _ e
  have b := h2.2 _ _ e
  have c := hc _ (List.mem_of_getElem? e)
  exact ⟨a.trans b.symm, _, c.1, c.2, b⟩
theorem prt_b {X : Int → Int} (k : Int) : ∀ m : Nat, (∀ j : Int, 0 ≤ j → j < m → -9 ≤ X j ∧ X j ≤ 9) → ∀ p, (prt X k m p).natAbs ≤ 10 ^ m := by
  intro m
  induction m with
  | zero =>
    intro _ p
    show (onz p).natAbs ≤ 1
    unfold onz
    split <;> decide
  | succ m ih =>
    intro h p
    have h' := ih (fun j j0 j1 => h j j0 (by omega))
    have a := h' p
    have b := h' (p - 1)
    have c := h m (by omega) (by omega)
    have pp : 10 ^ (m + 1) = 10 ^ m * 10 := Nat.pow_succ ..
    rw [prt_s]
    split
    · omega
    · unfold mlz
      have d : (X m * prt X k m p).natAbs ≤ 9 * 10 ^ m := natAbs_mul_le (by omega) a
      split <;> omega
theorem cfz_b {C : Int} {X Y wt : Int → Int} (h0 : 0 ≤ C) (h5 : C ≤ 5) (hr : Rz C (-9) 9 X) (hry : Rz C (-20) 20 Y) (hb : Bw C wt) (fl : Int32) (p : Int) : (cfz X (Tz fl wt Y) C.toNat C.toNat p).natAbs ≤ 63772920000000000 := by
  unfold cfz
  refine Nat.le_trans (smz_b (B := 127545840000 * 10 ^ 5) _ _ (fun k k0 k1 => ?_)) (by omega)
  refine natAbs_mul_le ?_ ?_
  · have a := hb k k0 (by omega)
    have b := hry k k0 (by omega)
    unfold Tz
    split
    · exact Nat.le_trans (natAbs_mul_le a (show (Y k).natAbs ≤ 20 by omega)) (by decide)
    · omega
  · exact Nat.le_trans (prt_b k C.toNat (fun j j0 j1 => hr j j0 (by omega)) p) (Nat.pow_le_pow_right (by omega) (by omega))
/-- what is written of a polynomial: the greatest power first -/
noncomputable def lwz (f : Int → Int) (m : Nat) : List Int := itz (fun j L => if f (4 - j) = 0 then L else trm L (f (4 - j)) (4 - j).toNat) m 0 []
theorem lwz_s (f : Int → Int) {j : Int} (h : 0 ≤ j) : lwz f (j + 1).toNat = if f (4 - j) = 0 then lwz f j.toNat else trm (lwz f j.toNat) (f (4 - j)) (4 - j).toNat := by
  unfold lwz
  rw [show (j + 1).toNat = j.toNat + 1 by omega, itz_e, show (0 : Int) + (j.toNat : Int) = j by omega]
theorem lwz_l {f : Int → Int} (hf : ∀ p, (f p).natAbs ≤ 63772920000000000) : ∀ m : Nat, m ≤ 5 → (lwz f m).length ≤ 41 * m ∧ Chr (lwz f m) := by
  intro m
  induction m with
  | zero => intro _; exact ⟨Nat.le_refl _, Chr.n⟩
  | succ m ih =>
    intro hm
    obtain ⟨i1, i2⟩ := ih (by omega)
    have e := lwz_s f (j := m) (by omega)
    rw [show ((m : Int) + 1).toNat = m + 1 by omega, show ((m : Int)).toNat = m by omega] at e
    have b := hf (4 - m)
    rw [e]
    split
    · exact ⟨by omega, i2⟩
    · have := trm_l (L := lwz f m) (v := f (4 - m)) (p := (4 - (m : Int)).toNat) (by omega) (by omega) (by omega)
      exact ⟨by omega, i2.t _ _⟩
theorem ok_40 : SOK q_40 := by
  intro u z h
  obtain ⟨a, hO, ⟨⟨hc, hd, hm, hw, hx, hy⟩, ⟨hv, ho, hwt⟩⟩, ⟨s0, s1, s2, tx, ty, tw⟩⟩ := h.1
  have O := hO
  obtain ⟨h0, h5, m0, m1, d0, d1, hr, hry, hrw, hi⟩ := O
  have hbw := hO.bw
  unfold q_40
  generalize qB (u 1) = fl
  obtain ⟨k1, k2, k3, k4, e1, e2⟩ := coefs7 hO ⟨s0, s1, s2, tx, ty, tw⟩ fl (a7_coefficients z.2.1) (a7_order z.2.1) (a7_product z.2.1) (a7_weights z.2.1)
  have hf := hv.fl fl
  have cb := fun p => cfz_b h0 h5 hr hry hbw fl p
  generalize cfz (zX a) (Tz fl (zw a) (zY a)) (zC a).toNat (zC a).toNat = g at e2 hf cb
  obtain ⟨A, f1, a1, a2⟩ := runr (fun n j (q : Int32 × (Nat → Int32)) => lX6_write_9 fl (a6_present_denominator z.1) (a6_present_numerator z.1) n (z3 (4 - j)) q.1 q.2) (fun j q => 0 ≤ j ∧ Wr (lwz g j.toNat) q.1 q.2) 5 (fun q => q)
    (fun n j q hj hp => by
      obtain ⟨p1, p2⟩ := hp
      have e := factor3 fl hf (p := 4 - j) (by omega) (by omega)
      have b := cb (4 - j)
      have l := (lwz_l cb j.toNat (by omega)).1
      try dsimp only
      rw [lX6_write_9, if_neg (fun w => by have := (z3lt (by omega) (by omega) (by omega) (by omega)).1 (l3_0 ▸ w); omega), e, Option.bind_some, show (-1 : Int32) = z3 (-1) from rfl, z3a, show (4 : Int) - j + -1 = 4 - (j + 1) by omega, lwz_s g p1]
      by_cases c : g (4 - j) = 0
      · rw [if_pos c, term3, if_pos (by rw [c]; rfl)]
        exact ⟨q, rfl, by omega, p2⟩
      · obtain ⟨c1, f1, t1, t2⟩ := trm3 p2 (v := g (4 - j)) (p := (4 - j).toNat) (by omega) (by omega) c (by omega) (by omega)
        rw [show (((4 - j).toNat : Nat) : Int) = 4 - j by omega] at t1
        rw [if_neg c, t1]
        exact ⟨(c1, f1), rfl, by omega, t2⟩)
    (fun n q hp => by
      try dsimp only
      rw [lX6_write_9, if_pos (by decide)])
    5 FU 0 (z3 0, a6_output_signs z.1) (by omega) (by decide) ⟨by omega, rfl, fun i v e => by cases e⟩
  obtain ⟨B, f2, b1, b2⟩ := runr (fun n j (q : (Nat → Int32) × Int32) => lX7_write_17 k1 n (z3 (4 - j)) q.1 q.2) (fun j q => 0 ≤ j ∧ Wr (lwz g j.toNat) q.2 q.1) 5 (fun q => q)
    (fun n j q hj hp => by
      obtain ⟨p1, p2⟩ := hp
      have e := e2 (4 - j) (by omega) (by omega)
      have b := cb (4 - j)
      have l := (lwz_l cb j.toNat (by omega)).1
      try dsimp only
      rw [lX7_write_17, if_neg (fun w => by have := (z3lt (by omega) (by omega) (by omega) (by omega)).1 (l3_0 ▸ w); omega), if_neg (gix (by omega) (by omega) (by decide)), z3nat (by omega) (by omega), e, show (-1 : Int32) = z3 (-1) from rfl, z3a, show (4 : Int) - j + -1 = 4 - (j + 1) by omega, lwz_s g p1]
      by_cases c : g (4 - j) = 0
      · rw [if_pos c, if_pos (by rw [c]; rfl)]
        exact ⟨q, rfl, by omega, p2⟩
      · obtain ⟨c1, f1, t1, t2⟩ := trm7 p2 (k := k1) (v := g (4 - j)) (p := (4 - j).toNat) (by omega) (by omega) (by omega) (by omega) e
        rw [show (((4 - j).toNat : Nat) : Int) = 4 - j by omega] at t1
        rw [if_neg c, if_neg (fun w => c (by have := (z6eq (by omega) (by omega) (by omega) (by omega)).1 (Eq.trans w l6_0); omega)), t1]
        exact ⟨(f1, c1), rfl, by omega, t2⟩)
    (fun n q hp => by
      try dsimp only
      rw [lX7_write_17, if_pos (by decide)])
    5 FU 0 (a7_output z.2.1, z3 0) (by omega) (by decide) ⟨by omega, rfl, fun i v e => by cases e⟩
  have f1 : lX6_write_9 fl (a6_present_denominator z.1) (a6_present_numerator z.1) FU 4 0 (a6_output_signs z.1) = some A := f1
  have f2 : lX7_write_17 k1 FU 4 (a7_output z.2.1) 0 = some B := f2
  obtain ⟨ll, lc⟩ := lwz_l cb 5 (by omega)
  have a2 : Wr (lwz g 5) A.1 A.2 := a2
  have b2 : Wr (lwz g 5) B.2 B.1 := b2
  have K : ∃ L c c2 f f2, Wr L c f ∧ Wr L c2 f2 ∧ Chr L ∧ L.length ≤ 320 ∧ mX6_write (a6_output_count z.1) (a6_output_signs z.1) (a6_present_denominator z.1) (a6_present_numerator z.1) fl = some (c, c, f) ∧ mX7_write (a7_coefficients z.2.1) (a7_order z.2.1) (a7_output z.2.1) (a7_outputLength z.2.1) (a7_product z.2.1) (a7_s z.2.1) (a7_thrown z.2.1) (a7_weights z.2.1) fl = some (c2, k1, k2, f2, c2, k3, 0, k4) := by
    by_cases w : (lwz g 5).length = 0
    · obtain ⟨c1, g1, p1, p2⟩ := put4 a2 (by omega) (v := 48) (by omega) (by omega)
      obtain ⟨c2, g2, q1, q2⟩ := says7 b2 (by omega) 48
      refine ⟨_, c1, c2, g1, g2, p2, q2, lc.a (by omega) (by omega), by rw [List.length_append]; show _ + 1 ≤ 320; omega, ?_, ?_⟩
      · unfold mX6_write mX4_clear mX4_size
        rw [Option.bind_some, f1, Option.bind_some, Option.bind_some, if_pos (by rw [a2.1, w]; rfl), l3_48, p1]
        rfl
      · unfold mX7_write
        rw [e1, Option.bind_some]
        dsimp only
        rw [f2, Option.bind_some, if_pos (by rw [b2.1, w]; rfl), l3_48, q1]
        rfl
    · have nz : ¬ z3 ((lwz g 5).length : Int) = 0 := fun q => w (by have := (z3eq (by omega) (by omega) (by omega) (by omega)).1 (Eq.trans q l3_0); omega)
      refine ⟨_, A.1, B.2, A.2, B.1, a2, b2, lc, by omega, ?_, ?_⟩
      · unfold mX6_write mX4_clear mX4_size
        rw [Option.bind_some, f1, Option.bind_some, Option.bind_some, if_neg (by rw [a2.1]; exact nz)]
        rfl
      · unfold mX7_write
        rw [e1, Option.bind_some]
        dsimp only
        rw [f2, Option.bind_some, if_neg (by rw [b2.1]; exact nz)]
  obtain ⟨L, c, c2, f, f2, w1, w2, ch, le, m6, m7⟩ := K
  have cc : c2 = c := w2.1.trans w1.1.symm
  subst cc
  have E6 : ∃ σ1, s6_write z.1 fl = some (c2, σ1) ∧ ∀ τ1, (∃ a, OkZ a ∧ J6 a z.1 ∧ N7 a (a7_s τ1)) → JH (a6_history_count z.1) (a6_history_kept_E_count z.1) (a6_history_kept_E_mode z.1) (a6_history_kept_E_degree z.1) (a6_history_kept_E_ws z.1) (a6_history_kept_E_xs z.1) (a6_history_kept_E_ys z.1) (a7_edits τ1) (a7_history τ1) → JB (a6_text_filled z.1) (a7_buffered τ1) (a6_text_bytes z.1) (a7_buffer τ1) → (a6_text_faultKind z.1 = a7_errorKind τ1 ∧ a6_text_faultPosition z.1 = a7_errorPosition τ1) → JO c2 (a7_outputLength τ1) f (a7_output τ1) → JZ σ1 τ1 := by
    apply Exists.intro
    refine ⟨?_, ?_⟩
    · unfold s6_write
      rw [m6]
      rfl
    · exact fun τ1 x1 x2 x3 x4 x5 => ⟨x1, x2, x3, x4, x5⟩
  have E7 : ∃ τ1, s7_write z.2.1 fl = some (c2, τ1) ∧ a7_outputLength τ1 = c2 ∧ a7_output τ1 = f2 ∧ a7_edits τ1 = a7_edits z.2.1 ∧ a7_history τ1 = a7_history z.2.1 ∧ a7_s τ1 = a7_s z.2.1 ∧ a7_buffered τ1 = a7_buffered z.2.1 ∧ a7_buffer τ1 = a7_buffer z.2.1 ∧ a7_errorKind τ1 = a7_errorKind z.2.1 ∧ a7_errorPosition τ1 = a7_errorPosition z.2.1 := by
    apply Exists.intro
    refine ⟨?_, ?_⟩
    · unfold s7_write
      rw [m7]
      rfl
    · exact ⟨rfl, rfl, rfl, rfl, rfl, rfl, rfl, rfl, rfl⟩
  obtain ⟨σ1, g6, j6⟩ := E6
  obtain ⟨τ1, g7, i1, i2, i3, i4, i5, i6, i7, i8, i9⟩ := E7
  refine fin0 g6 g7 (j6 τ1 ?_ ?_ ?_ ?_ ?_)
  · rw [i5]
    exact h.1
  · rw [i3, i4]
    exact h.2.1
  · rw [i6, i7]
    exact h.2.2.1
  · rw [i8, i9]
    exact h.2.2.2.1
  · rw [i1, i2]
    exact JO.w w1 w2 ch le
