/-! Step 16, about: but for two facts of floating point. -/
theorem finD {H : Option (Int32 × S6 × (Nat → UInt64))} {B : Option (UInt64 × S7)} {v : UInt64} {k : Int32} {σ : S6} {τ : S7} {o : Nat → UInt64} {d : Nat → Int64} (hH : H = some (k, σ, o)) (hB : B = some (v, τ)) (ht : a7_thrown τ = k) (hv : k = 0 → o 0 = v) (hJ : JZ σ τ) :
    ∃ z1, (H.bind fun a => B.bind fun b => (s7_thrown b.2).bind fun t => if t.1 = a.1 then if a.1 = 0 then if qC (a.2.2 0) b.1 = 0 ∨ (qC (a.2.2 0) (a.2.2 0) ≠ 0 ∧ qC b.1 b.1 ≠ 0) then some (a.2.1, t.2, d, a.2.2) else none else some (a.2.1, t.2, d, a.2.2) else none) = some z1 ∧ JS z1 := by
  subst hH
  subst hB
  subst ht
  refine ⟨(σ, τ, d, o), ?_, hJ⟩
  show (if a7_thrown τ = a7_thrown τ then if a7_thrown τ = 0 then if qC (o 0) v = 0 ∨ (qC (o 0) (o 0) ≠ 0 ∧ qC v v ≠ 0) then some (σ, τ, d, o) else none else some (σ, τ, d, o) else none) = some (σ, τ, d, o)
  rw [if_pos rfl]
  by_cases w : a7_thrown τ = 0
  · rw [if_pos w, hv w, if_pos]
    by_cases q : qC v v = 0
    · exact Or.inl q
    · exact Or.inr ⟨q, q⟩
  · rw [if_neg w]
theorem ok_16h (H1 : ∀ b : Int, 0 < b → b ≤ 124026212545200000 → ¬ Op.cmpValue (FP.dcmp (FP.l2d (z6 b)) FP.dconst0) .l = 0) (H2 : ∀ t b : Int, t.natAbs ≤ 124026212545200000 → 0 < b → b ≤ 124026212545200000 → FP.ddiv (FP.l2d (z6 t)) (FP.l2d (z6 b)) &&& 0x7fffffffffffffff ≤ 0x7ff0000000000000) : SOK q_16 := by
  intro u z h
  obtain ⟨a, hO, ⟨⟨hc, hd, hm, hw, hx, hy⟩, ⟨hv, ho, hwt⟩⟩, ⟨s0, s1, s2, tx, ty, tw⟩⟩ := h.1
  have O := hO
  obtain ⟨h0, h5, m0, m1, d0, d1, hr, hry, hrw, hi⟩ := O
  have hbw := hO.bw
  obtain ⟨x, x0, x1, hu⟩ := ex3 (u 1)
  unfold q_16
  rw [hu]
  have tw12 : (12 : Int32) = z3 12 := rfl
  by_cases c1 : -12 ≤ x ∧ x ≤ 12
  · by_cases c3 : kiz (zC a) (zX a) (zY a) (zw a) x ≤ 1
    · obtain ⟨o1, w1, e1⟩ := hasV_y hO ⟨s0, s1, s2, tx, ty, tw⟩ c1.1 c1.2 c3 (a7_low z.2.1) (a7_up z.2.1) (a7_order z.2.1) (a7_weights z.2.1)
      have NV := nv_y h0 h5 hr hry hbw hv c1.1 c1.2 c3 (a6_answer_bottom z.1) (a6_answer_top z.1)
      obtain ⟨b1, b2, b3⟩ := hO.vb c1.1 c1.2 c3
      have F1 := H1 _ b2 b3
      have F2 := H2 _ _ b1 b2 b3
      generalize vB (zC a) (zX a) (zY a) (zw a) x = vb at *
      generalize vT (zC a) (zX a) (zY a) (zw a) x = vt at *
      obtain ⟨DD, eD⟩ : ∃ DD, DD = FP.ddiv (FP.l2d (z6 vt)) (FP.l2d (z6 vb)) := ⟨_, rfl⟩
      have q0 : mX1_part (z6 vb) (z6 vt) 0 = some (z6 vt) := rfl
      have q1 : mX1_part (z6 vb) (z6 vt) 1 = some (z6 vb) := rfl
      have m6 : mX6_about (a6_answer_bottom z.1) (a6_answer_top z.1) (a6_present_denominator z.1) (a6_present_numerator z.1) (z3 x) = some (0, DD, z6 vb, z6 vt) := by
        unfold mX6_about
        rw [tw12, nw_y c1 x0 x1 (by omega) (by omega), Option.bind_some, if_pos rfl, NV, Option.bind_some, if_pos rfl, q0, Option.bind_some, q1, Option.bind_some, if_neg F1, if_neg (fun w => w F2), eD]
      have m7 : mX7_about (a7_low z.2.1) (a7_order z.2.1) (a7_s z.2.1) (a7_thrown z.2.1) (a7_up z.2.1) (a7_weights z.2.1) (z3 x) = some (DD, z6 vb, o1, 0, z6 vt, w1) := by
        unfold mX7_about
        rw [iw_y c1 x0 x1, Option.bind_some, if_neg n10, e1, Option.bind_some, if_neg n10, g2_11, Option.bind_some, if_neg n10, if_neg (fun w => w F2), eD]
      have E6 : ∃ σ1 o1, h_about z.1 (z3 x) z.2.2.2 = some (0, σ1, o1) ∧ ((0 : Int32) = 0 → o1 0 = DD) ∧ ∀ τ, JZ z.1 τ → JZ σ1 τ := by
        apply Exists.intro
        apply Exists.intro
        refine ⟨?_, ?_, ?_⟩
        · unfold h_about s6_about
          rw [m6]
          rfl
        · exact fun _ => rfl
        · exact fun τ h => h
      have E7 : ∃ v1 τ1, s7_about z.2.1 (z3 x) = some (v1, τ1) ∧ a7_thrown τ1 = 0 ∧ ((0 : Int32) = 0 → v1 = DD) ∧ ∀ σ, JZ σ z.2.1 → JZ σ τ1 := by
        apply Exists.intro
        apply Exists.intro
        refine ⟨?_, ?_, ?_, ?_⟩
        · unfold s7_about
          rw [m7]
          rfl
        · rfl
        · exact fun _ => rfl
        · exact fun σ h => h
      obtain ⟨σ1, o1, e6, v6, j6⟩ := E6
      obtain ⟨w1, τ1, e7, t7, v7, j7⟩ := E7
      exact finD e6 e7 t7 (fun w => (v6 w).trans (v7 w).symm) (j7 _ (j6 _ h))
    · obtain ⟨o1, w1, e1⟩ := hasV_n hO ⟨s0, s1, s2, tx, ty, tw⟩ c1.1 c1.2 c3 (a7_low z.2.1) (a7_up z.2.1) (a7_order z.2.1) (a7_weights z.2.1)
      have NV := nv_n h0 h5 hr hry hbw hv c1.1 c1.2 c3 (a6_answer_bottom z.1) (a6_answer_top z.1)
      have DD : UInt64 := 0
      have m6 : mX6_about (a6_answer_bottom z.1) (a6_answer_top z.1) (a6_present_denominator z.1) (a6_present_numerator z.1) (z3 x) = some (4, 0, a6_answer_bottom z.1, a6_answer_top z.1) := by
        unfold mX6_about
        rw [tw12, nw_y c1 x0 x1 (by omega) (by omega), Option.bind_some, if_pos rfl, NV]
        rfl
      have m7 : mX7_about (a7_low z.2.1) (a7_order z.2.1) (a7_s z.2.1) (a7_thrown z.2.1) (a7_up z.2.1) (a7_weights z.2.1) (z3 x) = some (FP.dconst0, a7_low z.2.1, o1, 2, a7_up z.2.1, w1) := by
        unfold mX7_about
        rw [iw_y c1 x0 x1, Option.bind_some, if_neg n10, e1, Option.bind_some, if_pos rfl, g2_10]
        rfl
      have E6 : ∃ σ1 o1, h_about z.1 (z3 x) z.2.2.2 = some (2, σ1, o1) ∧ ((2 : Int32) = 0 → o1 0 = DD) ∧ ∀ τ, JZ z.1 τ → JZ σ1 τ := by
        apply Exists.intro
        apply Exists.intro
        refine ⟨?_, ?_, ?_⟩
        · unfold h_about s6_about
          rw [m6]
          rfl
        · exact fun w => absurd w (by decide)
        · exact fun τ h => h
      have E7 : ∃ v1 τ1, s7_about z.2.1 (z3 x) = some (v1, τ1) ∧ a7_thrown τ1 = 2 ∧ ((2 : Int32) = 0 → v1 = DD) ∧ ∀ σ, JZ σ z.2.1 → JZ σ τ1 := by
        apply Exists.intro
        apply Exists.intro
        refine ⟨?_, ?_, ?_, ?_⟩
        · unfold s7_about
          rw [m7]
          rfl
        · rfl
        · exact fun w => absurd w (by decide)
        · exact fun σ h => h
      obtain ⟨σ1, o1, e6, v6, j6⟩ := E6
      obtain ⟨w1, τ1, e7, t7, v7, j7⟩ := E7
      exact finD e6 e7 t7 (fun w => (v6 w).trans (v7 w).symm) (j7 _ (j6 _ h))
  · have DD : UInt64 := 0
    have m6 : mX6_about (a6_answer_bottom z.1) (a6_answer_top z.1) (a6_present_denominator z.1) (a6_present_numerator z.1) (z3 x) = some (2, 0, a6_answer_bottom z.1, a6_answer_top z.1) := by
      unfold mX6_about
      rw [tw12, nw_n c1 x0 x1 (by omega) (by omega)]
      rfl
    have m7 : mX7_about (a7_low z.2.1) (a7_order z.2.1) (a7_s z.2.1) (a7_thrown z.2.1) (a7_up z.2.1) (a7_weights z.2.1) (z3 x) = some (FP.dconst0, a7_low z.2.1, a7_order z.2.1, 1, a7_up z.2.1, a7_weights z.2.1) := by
      unfold mX7_about
      rw [iw_n c1 x0 x1, Option.bind_some, if_pos rfl, g2_0]
      rfl
    have E6 : ∃ σ1 o1, h_about z.1 (z3 x) z.2.2.2 = some (1, σ1, o1) ∧ ((1 : Int32) = 0 → o1 0 = DD) ∧ ∀ τ, JZ z.1 τ → JZ σ1 τ := by
      apply Exists.intro
      apply Exists.intro
      refine ⟨?_, ?_, ?_⟩
      · unfold h_about s6_about
        rw [m6]
        rfl
      · exact fun w => absurd w (by decide)
      · exact fun τ h => h
    have E7 : ∃ v1 τ1, s7_about z.2.1 (z3 x) = some (v1, τ1) ∧ a7_thrown τ1 = 1 ∧ ((1 : Int32) = 0 → v1 = DD) ∧ ∀ σ, JZ σ z.2.1 → JZ σ τ1 := by
      apply Exists.intro
      apply Exists.intro
      refine ⟨?_, ?_, ?_, ?_⟩
      · unfold s7_about
        rw [m7]
        rfl
      · rfl
      · exact fun w => absurd w (by decide)
      · exact fun σ h => h
    obtain ⟨σ1, o1, e6, v6, j6⟩ := E6
    obtain ⟨w1, τ1, e7, t7, v7, j7⟩ := E7
    exact finD e6 e7 t7 (fun w => (v6 w).trans (v7 w).symm) (j7 _ (j6 _ h))
