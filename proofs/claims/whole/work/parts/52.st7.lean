/-! isAlternating. -/
section ALT
variable {C : Int} {hh : Int → Int}
/-- where the signs do not alternate -/
def badz (hh : Int → Int) (p : Int) : Prop := hh p = 0 ∨ (0 < p ∧ ((0 < hh p) ↔ (0 < hh (p - 1))))
end ALT
theorem ok_10 : SOK q_10 := by
  intro u z h
  obtain ⟨a, hO, ⟨⟨hc, hd, hm, hw, hx, hy⟩, ⟨hv, ho, hwt⟩⟩, ⟨s0, s1, s2, tx, ty, tw⟩⟩ := h.1
  have O := hO
  obtain ⟨h0, h5, m0, m1, d0, d1, hr, hry, hrw, hi⟩ := O
  have hbw := hO.bw
  obtain ⟨o1, w1, e1, e2, e3⟩ := lw7 hO ⟨s0, s1, s2, tx, ty, tw⟩ (a7_order z.2.1) (a7_weights z.2.1)
  unfold q_10
  obtain ⟨hh, eh⟩ : ∃ hh : Int → Int, hh = fun p => zw a (ivz (zC a) (zX a) p) := ⟨_, rfl⟩
  have bh : ∀ p, 0 ≤ p → p < zC a → (hh p).natAbs ≤ 6377292000 := fun p p0 p1 => by
    rw [eh]
    have := ivz_s hi p0 p1
    exact hbw _ this.1 this.2.1
  have K3 : ∃ b : Nat, lX0_alternates_4 (z3 (zC a)) (a6_present_order z.1) (a6_present_weights z.1) FU (z6 0) (z3 0) = some b ∧ ((b = 1 ∧ ∀ p, 0 ≤ p → p < zC a → ¬ badz hh p) ∨ (b = 0 ∧ ∃ p, 0 ≤ p ∧ p < zC a ∧ badz hh p)) := by
    exact rune (fun n j (q : Int) => lX0_alternates_4 (z3 (zC a)) (a6_present_order z.1) (a6_present_weights z.1) n (z6 q) (z3 j)) (fun j q => 0 ≤ j ∧ (0 < j → q = hh (j - 1)) ∧ ∀ i, 0 ≤ i → i < j → ¬ badz hh i) _ (zC a)
      (fun n j q hj hp => by
        obtain ⟨p1, p2, p3⟩ := hp
        have s := ivz_s hi p1 hj
        have e4 := ho.z p1 hj
        have e5 := hwt _ s.1 s.2.1
        have e6 : (a6_present_weights z.1) (ivz (zC a) (zX a) j).toNat = z6 (hh j) := by rw [eh]; exact e5
        have b1 := bh j p1 hj
        have W : mX0_weightOf (z3 (zC a)) (a6_present_weights z.1) (z3 (ivz (zC a) (zX a) j)) = some (z6 (hh j)) := by rw [weightOf3 h5 s.1 s.2.1, e6]
        rw [lX0_alternates_4, mX3_size, Option.bind_some, if_neg (fun w => by have := (z3le (by omega) (by omega) (by omega) (by omega)).1 w; omega), if_neg (fun w => by have := (z3le (by omega) (by omega) (by omega) (by omega)).1 (l3_5 ▸ w); omega), if_neg (gix p1 (by omega) (by decide)), z3nat (by omega) (by omega), e4, W, Option.bind_some, l6_0, l3_1, z3a]
        by_cases c0 : hh j = 0
        · rw [if_pos (by rw [c0])]
          exact Or.inl ⟨_, rfl, Or.inr ⟨rfl, j, p1, hj, Or.inl c0⟩⟩
        · rw [if_neg (fun w => c0 ((z6eq (by omega) (by omega) (by omega) (by omega)).1 w))]
          by_cases cj : j ≤ 0
          · rw [if_pos (l3_0 ▸ (z3le (by omega) (by omega) (by omega) (by omega)).2 cj)]
            refine Or.inr ⟨hh j, rfl, by omega, fun _ => by rw [show j + 1 - 1 = j by omega], fun i i0 i1 => ?_⟩
            have : i = j := by omega
            rw [this]
            intro w
            rcases w with w | w
            · exact c0 w
            · omega
          · rw [if_neg (fun w => cj ((z3le (by omega) (by omega) (by omega) (by omega)).1 (l3_0 ▸ w)))]
            have q2 := p2 (by omega)
            have b2 := bh (j - 1) (by omega) (by omega)
            have nb : ¬ ((0 < hh j) ↔ (0 < hh (j - 1))) → ∀ i, 0 ≤ i → i < j + 1 → ¬ badz hh i := fun w i i0 i1 => by
              by_cases q : i = j
              · rw [q]
                intro t
                rcases t with t | t
                · exact c0 t
                · exact w t.2
              · exact p3 i i0 (by omega)
            by_cases c1 : hh j ≤ 0
            · rw [if_pos ((z6le (by omega) (by omega) (by omega) (by omega)).2 c1)]
              by_cases c2 : hh (j - 1) ≤ 0
              · rw [q2, if_pos ((z6le (by omega) (by omega) (by omega) (by omega)).2 c2), if_pos (by decide)]
                exact Or.inl ⟨_, rfl, Or.inr ⟨rfl, j, p1, hj, Or.inr ⟨by omega, by omega⟩⟩⟩
              · rw [q2, if_neg (fun w => c2 ((z6le (by omega) (by omega) (by omega) (by omega)).1 w)), if_neg (by decide)]
                exact Or.inr ⟨hh j, rfl, by omega, fun _ => by rw [show j + 1 - 1 = j by omega], nb (by omega)⟩
            · rw [if_neg (fun w => c1 ((z6le (by omega) (by omega) (by omega) (by omega)).1 w))]
              by_cases c2 : hh (j - 1) ≤ 0
              · rw [q2, if_pos ((z6le (by omega) (by omega) (by omega) (by omega)).2 c2), if_neg (by decide)]
                exact Or.inr ⟨hh j, rfl, by omega, fun _ => by rw [show j + 1 - 1 = j by omega], nb (by omega)⟩
              · rw [q2, if_neg (fun w => c2 ((z6le (by omega) (by omega) (by omega) (by omega)).1 w)), if_pos (by decide)]
                exact Or.inl ⟨_, rfl, Or.inr ⟨rfl, j, p1, hj, Or.inr ⟨by omega, by omega⟩⟩⟩)
      (fun n q hp => by
        obtain ⟨p1, p2, p3⟩ := hp
        rw [lX0_alternates_4, mX3_size, Option.bind_some, if_pos ((z3le (by omega) (by omega) (by omega) (by omega)).2 (Int.le_refl _))]
        exact ⟨_, rfl, Or.inl ⟨rfl, p3⟩⟩)
      (zC a).toNat FU 0 0 (by omega) (fuel (by omega)) ⟨by omega, fun _ => by omega, fun i _ _ => by omega⟩
  have K7 : ∃ b : Int32, lX7_isAlternating_13 o1 (a7_s z.2.1) w1 FU 1 (z3 0) = some b ∧ ((b = 1 ∧ ∀ p, 0 ≤ p → p < zC a → ¬ badz hh p) ∨ (b = 0 ∧ ∃ p, 0 ≤ p ∧ p < zC a ∧ badz hh p)) := by
    obtain ⟨b, eb, p1, pb⟩ := runr (fun n j (q : Int32) => lX7_isAlternating_13 o1 (a7_s z.2.1) w1 n q (z3 j)) (fun j q => 0 ≤ j ∧ ((q = 1 ∧ ∀ i, 0 ≤ i → i < j → ¬ badz hh i) ∨ (q = 0 ∧ ∃ p, 0 ≤ p ∧ p < j ∧ badz hh p))) (zC a) (fun q => q)
      (fun n j q hj hp => by
        obtain ⟨p1, p2⟩ := hp
        have g2 : ¬ ((2 : Int32) < 0 ∨ 18 ≤ Int32.toNatClampNeg 2) := by decide
        have f2 : a7_s z.2.1 (Int32.toNatClampNeg 2) = z3 (zC a) := s2
        have s := ivz_s hi p1 hj
        have e4 := e2.z p1 hj
        have e6 : w1 (ivz (zC a) (zX a) j).toNat = z6 (hh j) := by rw [eh]; exact e3 _ s.1 s.2.1
        have b1 := bh j p1 hj
        have f1 : w1 (Int32.toNatClampNeg (z3 (ivz (zC a) (zX a) j))) = z6 (hh j) := by rw [z3nat (by omega) (by omega), e6]
        try dsimp only
        rw [lX7_isAlternating_13, if_neg g2, f2, if_neg (fun w => by have := (z3le (by omega) (by omega) (by omega) (by omega)).1 w; omega), if_neg (gix p1 (by omega) (by decide)), z3nat (by omega) (by omega), e4, if_neg (gix s.1 (by omega) (by decide)), f1, l6_0]
        rcases p2 with ⟨rfl, p3⟩ | ⟨rfl, p3⟩
        · rw [if_neg n10]
          by_cases c0 : hh j = 0
          · rw [if_pos (by rw [c0]), l3_1, z3a]
            exact ⟨0, rfl, by omega, Or.inr ⟨rfl, j, p1, by omega, Or.inl c0⟩⟩
          · rw [if_neg (fun w => c0 ((z6eq (by omega) (by omega) (by omega) (by omega)).1 w))]
            by_cases cj : j = 0
            · rw [if_pos (by rw [cj]; rfl)]
              refine ⟨1, ?_, by omega, Or.inl ⟨rfl, fun i i0 i1 => ?_⟩⟩
              · rw [cj]
                rfl
              · have : i = j := by omega
                rw [this]
                intro w
                rcases w with w | w
                · exact c0 w
                · omega
            · have nj : ¬ z3 j = 0 := fun w => cj ((z3eq (by omega) (by omega) (by omega) (by omega)).1 (Eq.trans w l3_0))
              have sp := ivz_s hi (show 0 ≤ j - 1 by omega) (show j - 1 < zC a by omega)
              have e7 : o1 (Int32.toNatClampNeg (z3 j - 1)) = z3 (ivz (zC a) (zX a) (j - 1)) := by
                rw [l3_1, z3s, z3nat (by omega) (by omega)]
                exact e2.z (by omega) (by omega)
              have g3 : ¬ (z3 j - 1 < 0 ∨ 5 ≤ Int32.toNatClampNeg (z3 j - 1)) := by
                rw [l3_1, z3s]
                exact gix (by omega) (by omega) (by decide)
              have g4 := gix (n := 5) sp.1 (show ivz (zC a) (zX a) (j - 1) < (5 : Nat) by omega) (by decide)
              have f3 : w1 (Int32.toNatClampNeg (z3 (ivz (zC a) (zX a) (j - 1)))) = z6 (hh (j - 1)) := by
                rw [z3nat (by omega) (by omega), eh]
                exact e3 _ sp.1 sp.2.1
              have b2 := bh (j - 1) (by omega) (by omega)
              have nb : ¬ ((0 < hh j) ↔ (0 < hh (j - 1))) → ∀ i, 0 ≤ i → i < j + 1 → ¬ badz hh i := fun w i i0 i1 => by
                by_cases q : i = j
                · rw [q]
                  intro t
                  rcases t with t | t
                  · exact c0 t
                  · exact w t.2
                · exact p3 i i0 (by omega)
              have zj : z3 j + 1 = z3 (j + 1) := by rw [l3_1, z3a]
              rw [if_neg nj, zj, e7, f3]
              by_cases c1 : hh j ≤ 0
              · rw [if_pos ((z6le (by omega) (by omega) (by omega) (by omega)).2 c1), if_neg g3, if_neg g4]
                by_cases c2 : hh (j - 1) ≤ 0
                · rw [if_pos ((z6le (by omega) (by omega) (by omega) (by omega)).2 c2), if_pos (by decide)]
                  exact ⟨0, rfl, by omega, Or.inr ⟨rfl, j, p1, by omega, Or.inr ⟨by omega, by omega⟩⟩⟩
                · rw [if_neg (fun w => c2 ((z6le (by omega) (by omega) (by omega) (by omega)).1 w)), if_neg (by decide)]
                  exact ⟨1, rfl, by omega, Or.inl ⟨rfl, nb (by omega)⟩⟩
              · rw [if_neg (fun w => c1 ((z6le (by omega) (by omega) (by omega) (by omega)).1 w)), if_neg g3, if_neg g4]
                by_cases c2 : hh (j - 1) ≤ 0
                · rw [if_pos ((z6le (by omega) (by omega) (by omega) (by omega)).2 c2), if_neg (by decide)]
                  exact ⟨1, rfl, by omega, Or.inl ⟨rfl, nb (by omega)⟩⟩
                · rw [if_neg (fun w => c2 ((z6le (by omega) (by omega) (by omega) (by omega)).1 w)), if_pos (by decide)]
                  exact ⟨0, rfl, by omega, Or.inr ⟨rfl, j, p1, by omega, Or.inr ⟨by omega, by omega⟩⟩⟩
        · rw [if_pos rfl, l3_1, z3a]
          obtain ⟨p, q0, q1, q2⟩ := p3
          exact ⟨0, rfl, by omega, Or.inr ⟨rfl, p, q0, by omega, q2⟩⟩)
      (fun n q hp => by
        have g2 : ¬ ((2 : Int32) < 0 ∨ 18 ≤ Int32.toNatClampNeg 2) := by decide
        have f2 : a7_s z.2.1 (Int32.toNatClampNeg 2) = z3 (zC a) := s2
        rw [lX7_isAlternating_13, if_neg g2, f2, if_pos ((z3le (by omega) (by omega) (by omega) (by omega)).2 (Int.le_refl _))])
      (zC a).toNat FU 0 1 (by omega) (fuel (by omega)) ⟨by omega, Or.inl ⟨rfl, fun i _ _ => by omega⟩⟩
    exact ⟨b, eb, pb⟩
  obtain ⟨b, eb, pb⟩ := K3
  obtain ⟨b', eb', pb'⟩ := K7
  have X6 : mX6_isAlternating (a6_present_nodes_count z.1) (a6_present_order z.1) (a6_present_weights z.1) = some b' := by
    unfold mX6_isAlternating mX0_alternates
    rw [hc, l6_0, l3_0, eb]
    rcases pb with ⟨rfl, q⟩ | ⟨rfl, p, q0, q1, q2⟩
    · rcases pb' with ⟨rfl, q'⟩ | ⟨rfl, p', q0', q1', q2'⟩
      · rfl
      · exact absurd q2' (q p' q0' q1')
    · rcases pb' with ⟨rfl, q'⟩ | ⟨rfl, p', q0', q1', q2'⟩
      · exact absurd q2 (q' p q0 q1)
      · rfl
  have X7 : mX7_isAlternating (a7_order z.2.1) (a7_s z.2.1) (a7_thrown z.2.1) (a7_weights z.2.1) = some (b', o1, 0, w1) := by
    unfold mX7_isAlternating
    rw [e1, Option.bind_some]
    dsimp only
    rw [l3_0]
    rw [eb', Option.bind_some]
    rcases pb' with ⟨rfl, q'⟩ | ⟨rfl, q'⟩ <;> rfl
  have m6 : mX6_isAlternating (a6_present_nodes_count z.1) (a6_present_order z.1) (a6_present_weights z.1)  = some b' := by
    exact X6
  have m7 : mX7_isAlternating (a7_order z.2.1) (a7_s z.2.1) (a7_thrown z.2.1) (a7_weights z.2.1)  = some (b', o1, 0, w1) := by
    exact X7
  have E6 : ∃ σ1, s6_isAlternating z.1  = some (b', σ1) ∧ (∀ τ, JZ z.1 τ → JZ σ1 τ) := by
    apply Exists.intro
    refine ⟨?_, ?_⟩
    · unfold s6_isAlternating
      rw [m6]
      rfl
    · exact fun τ h => h
  have E7 : ∃ τ1, s7_isAlternating z.2.1  = some (b', τ1) ∧ (∀ σ, JZ σ z.2.1 → JZ σ τ1) := by
    apply Exists.intro
    refine ⟨?_, ?_⟩
    · unfold s7_isAlternating
      rw [m7]
      rfl
    · exact fun σ h => h
  obtain ⟨σ1, e6, j6⟩ := E6
  obtain ⟨τ1, e7, j7⟩ := E7
  exact fin0 e6 e7 (j7 _ (j6 _ h))
