/-! Steps that only read: isAlternating, many, hiddenPoles, nextPole, written. -/
theorem q12lt {j : Int} (h0 : -100 ≤ j) (h : j ≤ 12) : ¬ (12 : Int32) < z3 j := by
  rw [l3_12, z3lt (by omega) (by omega) (by omega) (by omega)]
  omega
theorem q12le {j : Int} (h0 : -100 ≤ j) (h : j < 12) : ¬ (12 : Int32) ≤ z3 j := by
  rw [l3_12, z3le (by omega) (by omega) (by omega) (by omega)]
  omega
theorem q12le' {j : Int} (h : 12 ≤ j) (h1 : j ≤ 100) : (12 : Int32) ≤ z3 j := by
  rw [l3_12, z3le (by omega) (by omega) (by omega) (by omega)]
  omega
def hidz (C : Int) (X Y wt : Int → Int) (x : Int) : Prop := (0 < nmv C X Y wt x 1 ∧ nmv C X Y wt (x + 1) 1 < 0) ∨ (nmv C X Y wt x 1 < 0 ∧ 0 < nmv C X Y wt (x + 1) 1)
section HID
variable {C x : Int} {X Y wt : Int → Int} {fd fn : Nat → Int64} {s : Nat → Int32} {w : Nat → Int64}
theorem hid3 (h0 : 0 ≤ C) (h5 : C ≤ 5) (hr : Rz C (-9) 9 X) (hry : Rz C (-20) 20 Y) (hb : Bw C wt) (hc : Crv C X Y wt fd fn) (x0 : -12 ≤ x) (x1 : x < 12) : (hidz C X Y wt x → mX0_hidesPoleBehind fd fn (z3 x) = some 1) ∧ (¬ hidz C X Y wt x → mX0_hidesPoleBehind fd fn (z3 x) = some 0) := by
  have b0 := nmv_b h0 h5 hr hry hb x0 (show x ≤ 12 by omega) 1
  have b1 := nmv_b (x := x + 1) h0 h5 hr hry hb (by omega) (by omega) 1
  unfold mX0_hidesPoleBehind hidz
  rw [l3_1, z3a, ← l3_1, atD h0 h5 hc (by omega) (by omega), atD h0 h5 hc (by omega) (by omega), Option.bind_some, Option.bind_some]
  generalize nmv C X Y wt x 1 = p at b0 ⊢
  generalize nmv C X Y wt (x + 1) 1 = q at b1 ⊢
  rcases Int.lt_trichotomy 0 p with h | h | h <;> rcases Int.lt_trichotomy 0 q with g | g | g <;> refine ⟨fun w => ?_, fun w => ?_⟩ <;> first | (exfalso; omega) | (simp (disch := omega) only [l6_0, z6eq, z6le, if_pos, if_neg]; done) | (simp (disch := omega) only [l6_0, z6eq, z6le, if_pos, if_neg]; rfl)
theorem hid7 (h0 : 0 ≤ C) (h5 : C ≤ 5) (hs2 : s 2 = z3 C) (hx : En 3 C s X) (hy : En 8 C s Y) (hr : Rz C (-9) 9 X) (hry : Rz C (-20) 20 Y) (hb : Bw C wt) (hw : E6 C w wt) (x0 : -12 ≤ x) (x1 : x < 12) : (hidz C X Y wt x → mX7_isHiddenBehind s w (z3 x) = some 1) ∧ (¬ hidz C X Y wt x → mX7_isHiddenBehind s w (z3 x) = some 0) := by
  have b0 := nmv_b h0 h5 hr hry hb x0 (show x ≤ 12 by omega) 1
  have b1 := nmv_b (x := x + 1) h0 h5 hr hry hb (by omega) (by omega) 1
  have p0 : mX7_polynomialAt s w 1 (z3 x) = some (z6 (nmv C X Y wt x 1)) := poly7 h0 h5 hs2 hx hy hr hry hw 1 (by omega) (by omega)
  have p1 : mX7_polynomialAt s w 1 (z3 (x + 1)) = some (z6 (nmv C X Y wt (x + 1) 1)) := poly7 h0 h5 hs2 hx hy hr hry hw 1 (by omega) (by omega)
  unfold mX7_isHiddenBehind hidz
  rw [p0, l3_1, z3a, ← l3_1, p1, Option.bind_some, Option.bind_some]
  generalize nmv C X Y wt x 1 = p at b0 ⊢
  generalize nmv C X Y wt (x + 1) 1 = q at b1 ⊢
  rcases Int.lt_trichotomy 0 p with h | h | h <;> rcases Int.lt_trichotomy 0 q with g | g | g <;> refine ⟨fun w => ?_, fun w => ?_⟩ <;> first | (exfalso; omega) | (simp (disch := omega) only [l6_0, z6eq, z6le, z6lt, if_pos, if_neg]; done) | (simp (disch := omega) only [l6_0, z6eq, z6le, z6lt, if_pos, if_neg]; rfl)
/-- the kind in the reference, whatever it is -/
theorem kind7 (h0 : 0 ≤ C) (h5 : C ≤ 5) (hs2 : s 2 = z3 C) (hx : En 3 C s X) (hy : En 8 C s Y) (hr : Rz C (-9) 9 X) (hry : Rz C (-20) 20 Y) (hb : Bw C wt) (hw : E6 C w wt) (x0 : -12 ≤ x) (x1 : x ≤ 12) (u v : Int64) : ∃ u1 v1, mX7_kindNow u s v w (z3 x) = some (z3 (kiz C X Y wt x), u1, v1) := by
  by_cases hk : kiz C X Y wt x ≤ 1
  · exact ⟨_, _, kind7y h0 h5 hs2 hx hy hr hry hb hw x0 x1 hk u v⟩
  · exact ⟨_, _, kind7n h0 h5 hs2 hx hy hr hry hb hw x0 x1 hk u v⟩
end HID
theorem ok_20 : SOK q_20 := by
  intro u z h
  obtain ⟨a, hO, ⟨⟨hc, hd, hm, hw, hx, hy⟩, ⟨hv, ho, hwt⟩⟩, ⟨s0, s1, s2, tx, ty, tw⟩⟩ := h.1
  have O := hO
  obtain ⟨h0, h5, m0, m1, d0, d1, hr, hry, hrw, hi⟩ := O
  have hbw := hO.bw
  obtain ⟨o1, w1, e1, e2, e3⟩ := lw7 hO ⟨s0, s1, s2, tx, ty, tw⟩ (a7_order z.2.1) (a7_weights z.2.1)
  unfold q_20
  have K3 : mX6_hiddenPoles (a6_present_denominator z.1) (a6_present_numerator z.1) = some (z3 (smz (fun k => chi (hidz (zC a) (zX a) (zY a) (zw a) k)) 24 (-12))) := by
    have H := runz (fun n j (q : Int) => lX6_hiddenPoles_5 (a6_present_denominator z.1) (a6_present_numerator z.1) n (z3 q) (z3 j)) (fun j q => q + chi (hidz (zC a) (zX a) (zY a) (zw a) j)) (fun j q => -12 ≤ j) 12 z3
      (fun n j q hj hp => by
        have hp : -12 ≤ j := hp
        refine ⟨?_, by omega⟩
        have M := hid3 h0 h5 hr hry hbw hv hp hj
        rw [lX6_hiddenPoles_5, if_neg (q12le (by omega) (by omega))]
        by_cases c : hidz (zC a) (zX a) (zY a) (zw a) j
        · rw [M.1 c, Option.bind_some, if_neg n10, chi_y c, l3_1, z3a, z3a]
        · rw [M.2 c, Option.bind_some, if_pos rfl, chi_n c, l3_1, z3a, Int.add_zero])
      (fun n q hp => by
        rw [lX6_hiddenPoles_5, if_pos (by decide)])
      24 FU (-12) 0 (by omega) (by decide) (by omega)
    rw [itz_s, Int.zero_add] at H
    have H1 : lX6_hiddenPoles_5 (a6_present_denominator z.1) (a6_present_numerator z.1) FU 0 (-12) = _ := H.1
    unfold mX6_hiddenPoles
    rw [H1]
    rfl
  have K7 : mX7_hiddenPoles (a7_order z.2.1) (a7_s z.2.1) (a7_thrown z.2.1) (a7_weights z.2.1) = some (z3 (smz (fun k => chi (hidz (zC a) (zX a) (zY a) (zw a) k)) 24 (-12)), o1, 0, w1) := by
    have H := runz (fun n j (q : Int) => lX7_hiddenPoles_14 (a7_s z.2.1) w1 n (z3 q) (z3 j)) (fun j q => q + chi (hidz (zC a) (zX a) (zY a) (zw a) j)) (fun j q => -12 ≤ j) 12 z3
      (fun n j q hj hp => by
        have hp : -12 ≤ j := hp
        refine ⟨?_, by omega⟩
        have M := hid7 h0 h5 s2 tx ty hr hry hbw e3 hp hj
        rw [lX7_hiddenPoles_14, if_neg (q12le (by omega) (by omega))]
        by_cases c : hidz (zC a) (zX a) (zY a) (zw a) j
        · rw [M.1 c, Option.bind_some, if_neg n10, chi_y c, l3_1, z3a, z3a]
        · rw [M.2 c, Option.bind_some, if_pos rfl, chi_n c, l3_1, z3a, Int.add_zero])
      (fun n q hp => by
        rw [lX7_hiddenPoles_14, if_pos (by decide)])
      24 FU (-12) 0 (by omega) (by decide) (by omega)
    rw [itz_s, Int.zero_add] at H
    have H1 : lX7_hiddenPoles_14 (a7_s z.2.1) w1 FU 0 (-12) = _ := H.1
    unfold mX7_hiddenPoles
    rw [e1, Option.bind_some]
    try dsimp only
    rw [H1]
    rfl
  have m6 : mX6_hiddenPoles (a6_present_denominator z.1) (a6_present_numerator z.1)  = some (z3 (smz (fun k => chi (hidz (zC a) (zX a) (zY a) (zw a) k)) 24 (-12))) := by
    exact K3
  have m7 : mX7_hiddenPoles (a7_order z.2.1) (a7_s z.2.1) (a7_thrown z.2.1) (a7_weights z.2.1)  = some (z3 (smz (fun k => chi (hidz (zC a) (zX a) (zY a) (zw a) k)) 24 (-12)), o1, 0, w1) := by
    exact K7
  have E6 : ∃ σ1, s6_hiddenPoles z.1  = some (z3 (smz (fun k => chi (hidz (zC a) (zX a) (zY a) (zw a) k)) 24 (-12)), σ1) ∧ (∀ τ, JZ z.1 τ → JZ σ1 τ) := by
    apply Exists.intro
    refine ⟨?_, ?_⟩
    · unfold s6_hiddenPoles
      rw [m6]
      rfl
    · exact fun τ h => h
  have E7 : ∃ τ1, s7_hiddenPoles z.2.1  = some (z3 (smz (fun k => chi (hidz (zC a) (zX a) (zY a) (zw a) k)) 24 (-12)), τ1) ∧ (∀ σ, JZ σ z.2.1 → JZ σ τ1) := by
    apply Exists.intro
    refine ⟨?_, ?_⟩
    · unfold s7_hiddenPoles
      rw [m7]
      rfl
    · exact fun σ h => h
  obtain ⟨σ1, e6, j6⟩ := E6
  obtain ⟨τ1, e7, j7⟩ := E7
  exact fin0 e6 e7 (j7 _ (j6 _ h))
theorem ok_19 : SOK q_19 := by
  intro u z h
  obtain ⟨a, hO, ⟨⟨hc, hd, hm, hw, hx, hy⟩, ⟨hv, ho, hwt⟩⟩, ⟨s0, s1, s2, tx, ty, tw⟩⟩ := h.1
  have O := hO
  obtain ⟨h0, h5, m0, m1, d0, d1, hr, hry, hrw, hi⟩ := O
  have hbw := hO.bw
  obtain ⟨o1, w1, e1, e2, e3⟩ := lw7 hO ⟨s0, s1, s2, tx, ty, tw⟩ (a7_order z.2.1) (a7_weights z.2.1)
  unfold q_19
  generalize u 1 = kd
  have K3 : mX6_many (a6_present_denominator z.1) (a6_present_numerator z.1) kd = some (z3 (smz (fun k => chi (z3 (kiz (zC a) (zX a) (zY a) (zw a) k) = kd)) 25 (-12))) := by
    have H := runz (fun n j (q : Int) => lX6_many_5 kd (a6_present_denominator z.1) (a6_present_numerator z.1) n (z3 q) (z3 j)) (fun j q => q + chi (z3 (kiz (zC a) (zX a) (zY a) (zw a) j) = kd)) (fun j q => -12 ≤ j) 13 z3
      (fun n j q hj hp => by
        have hp : -12 ≤ j := hp
        refine ⟨?_, by omega⟩
        rw [lX6_many_5, if_neg (q12lt (by omega) (by omega)), kind3 h0 h5 hr hry hbw hv hp (by omega), Option.bind_some]
        by_cases c : z3 (kiz (zC a) (zX a) (zY a) (zw a) j) = kd
        · rw [if_pos c, chi_y c, l3_1, z3a, z3a]
        · rw [if_neg c, chi_n c, l3_1, z3a, Int.add_zero])
      (fun n q hp => by
        rw [lX6_many_5, if_pos (by decide)])
      25 FU (-12) 0 (by omega) (by decide) (by omega)
    rw [itz_s, Int.zero_add] at H
    have H1 : lX6_many_5 kd (a6_present_denominator z.1) (a6_present_numerator z.1) FU 0 (-12) = _ := H.1
    unfold mX6_many
    rw [H1]
    rfl
  have K7 : ∃ l1 u1, mX7_many (a7_low z.2.1) (a7_order z.2.1) (a7_s z.2.1) (a7_thrown z.2.1) (a7_up z.2.1) (a7_weights z.2.1) kd = some (z3 (smz (fun k => chi (z3 (kiz (zC a) (zX a) (zY a) (zw a) k) = kd)) 25 (-12)), l1, o1, 0, u1, w1) := by
    have H := runr (fun n j (q : Int × Int64 × Int64) => lX7_many_14 kd (a7_s z.2.1) w1 n (z3 q.1) (z3 j) q.2.1 q.2.2) (fun j q => -12 ≤ j ∧ q.1 = smz (fun k => chi (z3 (kiz (zC a) (zX a) (zY a) (zw a) k) = kd)) (j + 12).toNat (-12)) 13 (fun q => (z3 q.1, q.2.1, q.2.2))
      (fun n j q hj hp => by
        obtain ⟨p1, p2⟩ := hp
        have eS : smz (fun k => chi (z3 (kiz (zC a) (zX a) (zY a) (zw a) k) = kd)) (j + 1 + 12).toNat (-12) = q.1 + chi (z3 (kiz (zC a) (zX a) (zY a) (zw a) j) = kd) := by
          rw [show (j + 1 + 12).toNat = (j + 12).toNat + 1 by omega, smz_e, ← p2, show (-12 : Int) + ((j + 12).toNat : Int) = j by omega]
        obtain ⟨u1, v1, e⟩ := kind7 h0 h5 s2 tx ty hr hry hbw e3 p1 (show j ≤ 12 by omega) q.2.1 q.2.2
        try dsimp only
        rw [lX7_many_14, if_neg (q12lt (by omega) (by omega)), e, Option.bind_some, l3_1, z3a, z3a]
        by_cases c : z3 (kiz (zC a) (zX a) (zY a) (zw a) j) = kd
        · rw [if_pos c]
          exact ⟨(q.1 + 1, u1, v1), rfl, by omega, by rw [eS, chi_y c]⟩
        · rw [if_neg c]
          exact ⟨(q.1, u1, v1), rfl, by omega, by rw [eS, chi_n c, Int.add_zero]⟩)
      (fun n q hp => by
        try dsimp only
        rw [lX7_many_14, if_pos (by decide)])
      25 FU (-12) (0, a7_low z.2.1, a7_up z.2.1) (by omega) (by decide) ⟨by omega, rfl⟩
    obtain ⟨q, H1, -, H2⟩ := H
    have H1 : lX7_many_14 kd (a7_s z.2.1) w1 FU 0 (-12) (a7_low z.2.1) (a7_up z.2.1) = _ := H1
    refine ⟨q.2.1, q.2.2, ?_⟩
    unfold mX7_many
    rw [e1, Option.bind_some]
    try dsimp only
    rw [H1, H2]
    rfl
  obtain ⟨l1, u1, K7⟩ := K7
  have m6 : mX6_many (a6_present_denominator z.1) (a6_present_numerator z.1) kd = some (z3 (smz (fun k => chi (z3 (kiz (zC a) (zX a) (zY a) (zw a) k) = kd)) 25 (-12))) := by
    exact K3
  have m7 : mX7_many (a7_low z.2.1) (a7_order z.2.1) (a7_s z.2.1) (a7_thrown z.2.1) (a7_up z.2.1) (a7_weights z.2.1) kd = some (z3 (smz (fun k => chi (z3 (kiz (zC a) (zX a) (zY a) (zw a) k) = kd)) 25 (-12)), l1, o1, 0, u1, w1) := by
    exact K7
  have E6 : ∃ σ1, s6_many z.1 kd = some (z3 (smz (fun k => chi (z3 (kiz (zC a) (zX a) (zY a) (zw a) k) = kd)) 25 (-12)), σ1) ∧ (∀ τ, JZ z.1 τ → JZ σ1 τ) := by
    apply Exists.intro
    refine ⟨?_, ?_⟩
    · unfold s6_many
      rw [m6]
      rfl
    · exact fun τ h => h
  have E7 : ∃ τ1, s7_many z.2.1 kd = some (z3 (smz (fun k => chi (z3 (kiz (zC a) (zX a) (zY a) (zw a) k) = kd)) 25 (-12)), τ1) ∧ (∀ σ, JZ σ z.2.1 → JZ σ τ1) := by
    apply Exists.intro
    refine ⟨?_, ?_⟩
    · unfold s7_many
      rw [m7]
      rfl
    · exact fun σ h => h
  obtain ⟨σ1, e6, j6⟩ := E6
  obtain ⟨τ1, e7, j7⟩ := E7
  exact fin0 e6 e7 (j7 _ (j6 _ h))
/-- the first pole from some one on -/
def polz (C : Int) (X Y wt : Int → Int) (j : Int) : Prop := kiz C X Y wt j = 2 ∨ (j < 12 ∧ hidz C X Y wt j)
def fpz (C : Int) (X Y wt : Int → Int) (f r : Int) : Prop := f ≤ r ∧ r ≤ 12 ∧ polz C X Y wt r ∧ ∀ j, f ≤ j → j < r → ¬ polz C X Y wt j
def npz (C : Int) (X Y wt : Int → Int) (f : Int) : Prop := ∀ j, f ≤ j → j ≤ 12 → ¬ polz C X Y wt j
theorem fpz_u {C : Int} {X Y wt : Int → Int} {f r r' : Int} (h : fpz C X Y wt f r) (h' : fpz C X Y wt f r') : r = r' := by
  rcases Int.lt_trichotomy r r' with w | w | w
  · exact absurd h.2.2.1 (h'.2.2.2 r h.1 w)
  · exact w
  · exact absurd h'.2.2.1 (h.2.2.2 r' h'.1 w)
theorem ok_21 : SOK q_21 := by
  intro u z h
  obtain ⟨a, hO, ⟨⟨hc, hd, hm, hw, hx, hy⟩, ⟨hv, ho, hwt⟩⟩, ⟨s0, s1, s2, tx, ty, tw⟩⟩ := h.1
  have O := hO
  obtain ⟨h0, h5, m0, m1, d0, d1, hr, hry, hrw, hi⟩ := O
  have hbw := hO.bw
  obtain ⟨x, x0, x1, hu⟩ := ex3 (u 1)
  unfold q_21
  rw [hu]
  have tw12 : (12 : Int32) = z3 12 := rfl
  by_cases c1 : -12 ≤ x ∧ x ≤ 12
  · obtain ⟨o1, w1, e1, e2, e3⟩ := lw7 hO ⟨s0, s1, s2, tx, ty, tw⟩ (a7_order z.2.1) (a7_weights z.2.1)
    have K3 : ∃ b : Nat × Int32, lX6_nextPole_8 (a6_present_denominator z.1) (a6_present_numerator z.1) FU (z3 x) = some b ∧ ((b.1 = 0 ∧ ∃ r, b.2 = z3 r ∧ fpz (zC a) (zX a) (zY a) (zw a) x r) ∨ (b.1 = 1 ∧ npz (zC a) (zX a) (zY a) (zw a) x)) := by
      exact rune (fun n j (_ : Unit) => lX6_nextPole_8 (a6_present_denominator z.1) (a6_present_numerator z.1) n (z3 j)) (fun j _ => x ≤ j ∧ ∀ i, x ≤ i → i < j → ¬ polz (zC a) (zX a) (zY a) (zw a) i) _ 13
        (fun n j _ hj hp => by
          obtain ⟨p1, p2⟩ := hp
          rw [lX6_nextPole_8, if_neg (q12lt (by omega) (by omega)), kind3 h0 h5 hr hry hbw hv (by omega) (by omega), Option.bind_some]
          have kr := kiz_c (zC a) (zX a) (zY a) (zw a) j
          by_cases c2 : kiz (zC a) (zX a) (zY a) (zw a) j = 2
          · rw [if_pos (by rw [c2]; rfl)]
            exact Or.inl ⟨_, rfl, Or.inl ⟨rfl, j, rfl, p1, by omega, Or.inl c2, p2⟩⟩
          · rw [if_neg (fun w => c2 ((z3eq (by omega) (by omega) (by omega) (by omega)).1 (Eq.trans w l3_2))), l3_1, z3a]
            by_cases c3 : 12 ≤ j
            · rw [if_pos (q12le' c3 (by omega))]
              refine Or.inr ⟨(), rfl, by omega, fun i i0 i1 => ?_⟩
              by_cases w : i = j
              · rw [w]
                intro q
                rcases q with q | q
                · exact c2 q
                · omega
              · exact p2 i i0 (by omega)
            · rw [if_neg (q12le (by omega) (by omega))]
              have M := hid3 h0 h5 hr hry hbw hv (show -12 ≤ j by omega) (show j < 12 by omega)
              by_cases c4 : hidz (zC a) (zX a) (zY a) (zw a) j
              · rw [M.1 c4, Option.bind_some, if_neg n10]
                exact Or.inl ⟨_, rfl, Or.inl ⟨rfl, j, rfl, p1, by omega, Or.inr ⟨by omega, c4⟩, p2⟩⟩
              · rw [M.2 c4, Option.bind_some, if_pos rfl]
                refine Or.inr ⟨(), rfl, by omega, fun i i0 i1 => ?_⟩
                by_cases w : i = j
                · rw [w]
                  intro q
                  rcases q with q | q
                  · exact c2 q
                  · exact c4 q.2
                · exact p2 i i0 (by omega))
        (fun n _ hp => by
          obtain ⟨p1, p2⟩ := hp
          rw [lX6_nextPole_8, if_pos (by decide)]
          exact ⟨_, rfl, Or.inr ⟨rfl, fun j j0 j1 => p2 j j0 (by omega)⟩⟩)
        (13 - x).toNat FU x () (by omega) (fuel (by omega)) ⟨by omega, fun i _ _ => by omega⟩
    have K7 : ∃ b : Nat × Int32 × Int64 × Int64, lX7_poleFrom_6 (a7_s z.2.1) w1 FU (z3 x) (a7_low z.2.1) (a7_up z.2.1) = some b ∧ ((b.1 = 0 ∧ ∃ r, b.2.1 = z3 r ∧ fpz (zC a) (zX a) (zY a) (zw a) x r) ∨ (b.1 = 1 ∧ npz (zC a) (zX a) (zY a) (zw a) x)) := by
      exact rune (fun n j (q : Int64 × Int64) => lX7_poleFrom_6 (a7_s z.2.1) w1 n (z3 j) q.1 q.2) (fun j _ => x ≤ j ∧ ∀ i, x ≤ i → i < j → ¬ polz (zC a) (zX a) (zY a) (zw a) i) _ 13
        (fun n j q hj hp => by
          obtain ⟨p1, p2⟩ := hp
          obtain ⟨u1, v1, e⟩ := kind7 h0 h5 s2 tx ty hr hry hbw e3 (show -12 ≤ j by omega) (show j ≤ 12 by omega) q.1 q.2
          rw [lX7_poleFrom_6, if_neg (q12lt (by omega) (by omega)), e, Option.bind_some]
          have kr := kiz_c (zC a) (zX a) (zY a) (zw a) j
          by_cases c2 : kiz (zC a) (zX a) (zY a) (zw a) j = 2
          · rw [if_pos (by show z3 _ = _; rw [c2]; rfl)]
            exact Or.inl ⟨_, rfl, Or.inl ⟨rfl, j, rfl, p1, by omega, Or.inl c2, p2⟩⟩
          · rw [if_neg (fun w => c2 ((z3eq (by omega) (by omega) (by omega) (by omega)).1 (Eq.trans w l3_2))), l3_1, z3a]
            by_cases c3 : 12 ≤ j
            · rw [if_pos (q12le' c3 (by omega))]
              refine Or.inr ⟨(u1, v1), rfl, by omega, fun i i0 i1 => ?_⟩
              by_cases w : i = j
              · rw [w]
                intro q
                rcases q with q | q
                · exact c2 q
                · omega
              · exact p2 i i0 (by omega)
            · rw [if_neg (q12le (by omega) (by omega))]
              have M := hid7 h0 h5 s2 tx ty hr hry hbw e3 (show -12 ≤ j by omega) (show j < 12 by omega)
              by_cases c4 : hidz (zC a) (zX a) (zY a) (zw a) j
              · rw [M.1 c4, Option.bind_some, if_neg n10]
                exact Or.inl ⟨_, rfl, Or.inl ⟨rfl, j, rfl, p1, by omega, Or.inr ⟨by omega, c4⟩, p2⟩⟩
              · rw [M.2 c4, Option.bind_some, if_pos rfl]
                refine Or.inr ⟨(u1, v1), rfl, by omega, fun i i0 i1 => ?_⟩
                by_cases w : i = j
                · rw [w]
                  intro q
                  rcases q with q | q
                  · exact c2 q
                  · exact c4 q.2
                · exact p2 i i0 (by omega))
        (fun n q hp => by
          obtain ⟨p1, p2⟩ := hp
          rw [lX7_poleFrom_6, if_pos (by decide)]
          exact ⟨_, rfl, Or.inr ⟨rfl, fun j j0 j1 => p2 j j0 (by omega)⟩⟩)
        (13 - x).toNat FU x (a7_low z.2.1, a7_up z.2.1) (by omega) (fuel (by omega)) ⟨by omega, fun i _ _ => by omega⟩
    obtain ⟨b, eb, hb⟩ := K3
    obtain ⟨c, ec, hc'⟩ := K7
    have P7 : mX7_poleFrom (a7_low z.2.1) (a7_order z.2.1) (a7_s z.2.1) (a7_up z.2.1) (a7_weights z.2.1) (z3 x) = if c.1 = 0 then some (c.2.1, c.2.2.1, o1, c.2.2.2, w1) else some (13, c.2.2.1, o1, c.2.2.2, w1) := by
      unfold mX7_poleFrom
      rw [e1, Option.bind_some]
      try dsimp only
      rw [ec]
      rfl
    rcases hb with ⟨b1, r, b2, b3⟩ | ⟨b1, b2⟩
    · rcases hc' with ⟨c1', r', c2', c3'⟩ | ⟨c1', c2'⟩
      · have er := fpz_u c3' b3
        subst er
        rw [if_pos c1', c2'] at P7
        have m6 : mX6_nextPole (a6_present_denominator z.1) (a6_present_numerator z.1) (z3 x) = some (0, z3 r') := by
          unfold mX6_nextPole
          rw [tw12, nw_y c1 x0 x1 (by omega) (by omega), Option.bind_some, if_pos rfl, eb, Option.bind_some, if_pos b1, b2]
        have m7 : mX7_nextPole (a7_low z.2.1) (a7_order z.2.1) (a7_s z.2.1) (a7_thrown z.2.1) (a7_up z.2.1) (a7_weights z.2.1) (z3 x) = some (z3 r', c.2.2.1, o1, 0, c.2.2.2, w1) := by
          unfold mX7_nextPole
          have g : ¬ (12 : Int32) < z3 r' := q12lt (by have := b3.1; omega) b3.2.1
          rw [iw_y c1 x0 x1, Option.bind_some, if_neg n10, P7, Option.bind_some, if_neg g, g2_11, Option.bind_some, if_neg n10]
        have E6 : ∃ σ1 o1, h_nextPole z.1 (z3 x) z.2.2.1 = some (0, σ1, o1) ∧ (o1 0 = o1 0) ∧ ((0 : Int32) = 0 → o1 = vp_updL z.2.2.1 0 (Int32.toInt64 (z3 r'))) ∧ ∀ τ, JZ z.1 τ → JZ σ1 τ := by
          apply Exists.intro
          apply Exists.intro
          refine ⟨?_, rfl, ?_, ?_⟩
          · unfold h_nextPole s6_nextPole
            rw [m6]
            rfl
          · exact fun _ => rfl
          · exact fun τ h => h
        have E7 : ∃ v1 τ1, s7_nextPole z.2.1 (z3 x) = some (v1, τ1) ∧ a7_thrown τ1 = 0 ∧ ((0 : Int32) = 0 → (Int32.toInt64 (z3 r')) = (Int32.toInt64) v1) ∧ ∀ σ, JZ σ z.2.1 → JZ σ τ1 := by
          apply Exists.intro
          apply Exists.intro
          refine ⟨?_, ?_, ?_, ?_⟩
          · unfold s7_nextPole
            rw [m7]
            rfl
          · rfl
          · exact fun _ => rfl
          · exact fun σ h => h
        obtain ⟨σ1, o1, e6, -, v6, j6⟩ := E6
        obtain ⟨w1, τ1, e7, t7, v7, j7⟩ := E7
        exact fin1 (Int32.toInt64) e6 e7 t7 (fun w => by rw [v6 w, updL_s]; exact v7 w) (j7 _ (j6 _ h))
      · exact absurd b3.2.2.1 (c2' r b3.1 b3.2.1)
    · rcases hc' with ⟨c1', r', c2', c3'⟩ | ⟨c1', c2'⟩
      · exact absurd c3'.2.2.1 (b2 r' c3'.1 c3'.2.1)
      · rw [if_neg (by omega)] at P7
        have m6 : mX6_nextPole (a6_present_denominator z.1) (a6_present_numerator z.1) (z3 x) = some (4, 0) := by
          unfold mX6_nextPole
          rw [tw12, nw_y c1 x0 x1 (by omega) (by omega), Option.bind_some, if_pos rfl, eb, Option.bind_some, if_neg (by omega)]
        have m7 : mX7_nextPole (a7_low z.2.1) (a7_order z.2.1) (a7_s z.2.1) (a7_thrown z.2.1) (a7_up z.2.1) (a7_weights z.2.1) (z3 x) = some (0, c.2.2.1, o1, 2, c.2.2.2, w1) := by
          unfold mX7_nextPole
          rw [iw_y c1 x0 x1, Option.bind_some, if_neg n10, P7]
          rfl
        have E6 : ∃ σ1 o1, h_nextPole z.1 (z3 x) z.2.2.1 = some (2, σ1, o1) ∧ (o1 0 = o1 0) ∧ ((2 : Int32) = 0 → o1 = vp_updL z.2.2.1 0 (0)) ∧ ∀ τ, JZ z.1 τ → JZ σ1 τ := by
          apply Exists.intro
          apply Exists.intro
          refine ⟨?_, rfl, ?_, ?_⟩
          · unfold h_nextPole s6_nextPole
            rw [m6]
            rfl
          · exact fun w => absurd w (by decide)
          · exact fun τ h => h
        have E7 : ∃ v1 τ1, s7_nextPole z.2.1 (z3 x) = some (v1, τ1) ∧ a7_thrown τ1 = 2 ∧ ((2 : Int32) = 0 → (0) = (Int32.toInt64) v1) ∧ ∀ σ, JZ σ z.2.1 → JZ σ τ1 := by
          apply Exists.intro
          apply Exists.intro
          refine ⟨?_, ?_, ?_, ?_⟩
          · unfold s7_nextPole
            rw [m7]
            rfl
          · rfl
          · exact fun w => absurd w (by decide)
          · exact fun σ h => h
        obtain ⟨σ1, o1, e6, -, v6, j6⟩ := E6
        obtain ⟨w1, τ1, e7, t7, v7, j7⟩ := E7
        exact fin1 (Int32.toInt64) e6 e7 t7 (fun w => by rw [v6 w, updL_s]; exact v7 w) (j7 _ (j6 _ h))
  · have m6 : mX6_nextPole (a6_present_denominator z.1) (a6_present_numerator z.1) (z3 x) = some (2, 0) := by
      unfold mX6_nextPole
      rw [tw12, nw_n c1 x0 x1 (by omega) (by omega)]
      rfl
    have m7 : mX7_nextPole (a7_low z.2.1) (a7_order z.2.1) (a7_s z.2.1) (a7_thrown z.2.1) (a7_up z.2.1) (a7_weights z.2.1) (z3 x) = some (0, a7_low z.2.1, a7_order z.2.1, 1, a7_up z.2.1, a7_weights z.2.1) := by
      unfold mX7_nextPole
      rw [iw_n c1 x0 x1]
      rfl
    have E6 : ∃ σ1 o1, h_nextPole z.1 (z3 x) z.2.2.1 = some (1, σ1, o1) ∧ (o1 0 = o1 0) ∧ ((1 : Int32) = 0 → o1 = vp_updL z.2.2.1 0 (0)) ∧ ∀ τ, JZ z.1 τ → JZ σ1 τ := by
      apply Exists.intro
      apply Exists.intro
      refine ⟨?_, rfl, ?_, ?_⟩
      · unfold h_nextPole s6_nextPole
        rw [m6]
        rfl
      · exact fun w => absurd w (by decide)
      · exact fun τ h => h
    have E7 : ∃ v1 τ1, s7_nextPole z.2.1 (z3 x) = some (v1, τ1) ∧ a7_thrown τ1 = 1 ∧ ((1 : Int32) = 0 → (0) = (Int32.toInt64) v1) ∧ ∀ σ, JZ σ z.2.1 → JZ σ τ1 := by
      apply Exists.intro
      apply Exists.intro
      refine ⟨?_, ?_, ?_, ?_⟩
      · unfold s7_nextPole
        rw [m7]
        rfl
      · rfl
      · exact fun w => absurd w (by decide)
      · exact fun σ h => h
    obtain ⟨σ1, o1, e6, -, v6, j6⟩ := E6
    obtain ⟨w1, τ1, e7, t7, v7, j7⟩ := E7
    exact fin1 (Int32.toInt64) e6 e7 t7 (fun w => by rw [v6 w, updL_s]; exact v7 w) (j7 _ (j6 _ h))
