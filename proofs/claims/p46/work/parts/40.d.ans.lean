/-! Further answers of the class. -/
section ANS
variable {a : AZ} {h : Int} {σ : S6}
theorem a_alt (hp : Pl9 a) (hJ : JA a h σ) : ∃ r σ', s6_isAlternating σ = some (r, σ') ∧ r ≠ 0 ∧ JA a h σ' := by
  have hJ9 := hJ
  obtain ⟨hO, ⟨hc, hd, hm, hw, hx, hy⟩, ⟨hv, ho, hwt⟩, hh9, hf⟩ := hJ
  have hbw := hO.bw
  obtain ⟨h0, h5, m0, m1, d0, d1, hr, hry, hrw, hi⟩ := hO
  obtain ⟨hh, eh⟩ : ∃ hh : Int → Int, hh = fun p => zw a (ivz (zC a) (zX a) p) := ⟨_, rfl⟩
  have bh : ∀ p, 0 ≤ p → p < zC a → (hh p).natAbs ≤ 6377292000 := fun p p0 p1 => by
    rw [eh]
    have := ivz_s hi p0 p1
    exact hbw _ this.1 this.2.1
  have K3 : ∃ b : Nat, lX0_alternates_4 (z3 (zC a)) (a6_present_order σ) (a6_present_weights σ) FU (z6 0) (z3 0) = some b ∧ ((b = 1 ∧ ∀ p, 0 ≤ p → p < zC a → ¬ badz hh p) ∨ (b = 0 ∧ ∃ p, 0 ≤ p ∧ p < zC a ∧ badz hh p)) := by
    exact rune (fun n j (q : Int) => lX0_alternates_4 (z3 (zC a)) (a6_present_order σ) (a6_present_weights σ) n (z6 q) (z3 j)) (fun j q => 0 ≤ j ∧ (0 < j → q = hh (j - 1)) ∧ ∀ i, 0 ≤ i → i < j → ¬ badz hh i) _ (zC a)
      (fun n j q hj hp => by
        obtain ⟨p1, p2, p3⟩ := hp
        have s := ivz_s hi p1 hj
        have e4 := ho.z p1 hj
        have e5 := hwt _ s.1 s.2.1
        have e6 : (a6_present_weights σ) (ivz (zC a) (zX a) j).toNat = z6 (hh j) := by rw [eh]; exact e5
        have b1 := bh j p1 hj
        have W : mX0_weightOf (z3 (zC a)) (a6_present_weights σ) (z3 (ivz (zC a) (zX a) j)) = some (z6 (hh j)) := by rw [weightOf3 h5 s.1 s.2.1, e6]
        rw [lX0_alternates_4, mX3_size, Option.bind_some, if_neg (fun w => by have := (z3le (by omega) (by omega) (by omega) (by omega)).1 w; omega), if_neg (fun w => by have := (z3le (by omega) (by omega) (by omega) (by omega)).1 (l3_5 ▸ w); omega), if_neg (gix p1 (by omega) (by decide)), z3nat (by omega) (by omega), e4, W, Option.bind_some, l6_0, l3_1, z3a]
        by_cases c0 : hh j = 0
        · rw [if_pos (by rw [c0])]
          exact Or.inl ⟨_, rfl, Or.inr ⟨rfl, j, p1, hj, Or.inl c0⟩⟩
        · rw [if_neg (fun w => c0 ((z6eq (by omega) (by omega) (by omega) (by omega)).1 w))]
          by_cases cj : j ≤ 0
          · rw [if_pos (l3_0 ▸ (z3le (by omega) (by omega) (by omega) (by omega)).2 cj)]
            refine Or.inr ⟨hh j, rfl, by omega, fun _ => by rw [show j + 1 - 1 = j by omega], fun i i0 i1 => ?_⟩
            have : i = j := by omega
            rw [this]
            intro w
            rcases w with w | w
            · exact c0 w
            · omega
          · rw [if_neg (fun w => cj ((z3le (by omega) (by omega) (by omega) (by omega)).1 (l3_0 ▸ w)))]
            have q2 := p2 (by omega)
            have b2 := bh (j - 1) (by omega) (by omega)
            have nb : ¬ ((0 < hh j) ↔ (0 < hh (j - 1))) → ∀ i, 0 ≤ i → i < j + 1 → ¬ badz hh i := fun w i i0 i1 => by
              by_cases q : i = j
              · rw [q]
                intro t
                rcases t with t | t
                · exact c0 t
                · exact w t.2
              · exact p3 i i0 (by omega)
            by_cases c1 : hh j ≤ 0
            · rw [if_pos ((z6le (by omega) (by omega) (by omega) (by omega)).2 c1)]
              by_cases c2 : hh (j - 1) ≤ 0
              · rw [q2, if_pos ((z6le (by omega) (by omega) (by omega) (by omega)).2 c2), if_pos (by decide)]
                exact Or.inl ⟨_, rfl, Or.inr ⟨rfl, j, p1, hj, Or.inr ⟨by omega, by omega⟩⟩⟩
              · rw [q2, if_neg (fun w => c2 ((z6le (by omega) (by omega) (by omega) (by omega)).1 w)), if_neg (by decide)]
                exact Or.inr ⟨hh j, rfl, by omega, fun _ => by rw [show j + 1 - 1 = j by omega], nb (by omega)⟩
            · rw [if_neg (fun w => c1 ((z6le (by omega) (by omega) (by omega) (by omega)).1 w))]
              by_cases c2 : hh (j - 1) ≤ 0
              · rw [q2, if_pos ((z6le (by omega) (by omega) (by omega) (by omega)).2 c2), if_neg (by decide)]
                exact Or.inr ⟨hh j, rfl, by omega, fun _ => by rw [show j + 1 - 1 = j by omega], nb (by omega)⟩
              · rw [q2, if_neg (fun w => c2 ((z6le (by omega) (by omega) (by omega) (by omega)).1 w)), if_pos (by decide)]
                exact Or.inl ⟨_, rfl, Or.inr ⟨rfl, j, p1, hj, Or.inr ⟨by omega, by omega⟩⟩⟩)
      (fun n q hp => by
        obtain ⟨p1, p2, p3⟩ := hp
        rw [lX0_alternates_4, mX3_size, Option.bind_some, if_pos ((z3le (by omega) (by omega) (by omega) (by omega)).2 (Int.le_refl _))]
        exact ⟨_, rfl, Or.inl ⟨rfl, p3⟩⟩)
      (zC a).toNat FU 0 0 (by omega) (fuel (by omega)) ⟨by omega, fun _ => by omega, fun i _ _ => by omega⟩
  obtain ⟨b, e, hb⟩ := K3
  have hb1 : b = 1 := by
    rcases hb with ⟨hb, -⟩ | ⟨hb, p, p0, p1, p2⟩
    · exact hb
    · rw [eh] at p2
      exact absurd p2 (pl_alt hp p0 p1)
  subst hb1
  have e : lX0_alternates_4 (z3 (zC a)) (a6_present_order σ) (a6_present_weights σ) FU 0 0 = some 1 := e
  have m6 : mX6_isAlternating (a6_present_nodes_count σ) (a6_present_order σ) (a6_present_weights σ) = some 1 := by
    unfold mX6_isAlternating mX0_alternates
    rw [hc, e]
    rfl
  refine ⟨1, ?_⟩
  apply Exists.intro
  refine ⟨?_, by decide, ?_⟩
  · unfold s6_isAlternating
    rw [m6]
    rfl
  · exact hJ9
theorem a_kind {x : Int} (hJ : JA a h σ) (x0 : -12 ≤ x) (x1 : x ≤ 12) : mX6_kindAt (a6_present_denominator σ) (a6_present_numerator σ) (z3 x) = some (0, z3 (kiz (zC a) (zX a) (zY a) (zw a) x)) := by
  obtain ⟨hO, ⟨hc, hd, hm, hw, hx, hy⟩, ⟨hv, ho, hwt⟩, hh, hf⟩ := hJ
  have hbw := hO.bw
  obtain ⟨h0, h5, m0, m1, d0, d1, hr, hry, hrw, hi⟩ := hO
  unfold mX6_kindAt
  rw [show (12 : Int32) = z3 12 from rfl, nw_y ⟨x0, x1⟩ (by omega) (by omega) (by omega) (by omega), Option.bind_some, if_pos rfl, kind3 h0 h5 hr hry hbw hv x0 x1]
  rfl
theorem a_valm {x k : Int} (u v : Int64) (hJ : JA a h σ) (x0 : -12 ≤ x) (x1 : x ≤ 12) (k0 : 0 ≤ k ∧ k ≤ 1) (hk : kiz (zC a) (zX a) (zY a) (zw a) x ≤ 1) : mX6_value u v (a6_present_denominator σ) (a6_present_numerator σ) (z3 x) (z3 k) = some (0, (if k = 0 then z6 (vT (zC a) (zX a) (zY a) (zw a) x) else z6 (vB (zC a) (zX a) (zY a) (zw a) x)), z6 (vB (zC a) (zX a) (zY a) (zw a) x), z6 (vT (zC a) (zX a) (zY a) (zw a) x)) := by
  obtain ⟨hO, ⟨hc, hd, hm, hw, hx, hy⟩, ⟨hv, ho, hwt⟩, hh, hf⟩ := hJ
  have hbw := hO.bw
  obtain ⟨h0, h5, m0, m1, d0, d1, hr, hry, hrw, hi⟩ := hO
  unfold mX6_value
  rw [show (12 : Int32) = z3 12 from rfl, nw_y ⟨x0, x1⟩ (by omega) (by omega) (by omega) (by omega), Option.bind_some, if_pos rfl, np_y k0 (by omega) (by omega), Option.bind_some, if_pos rfl, nv_y h0 h5 hr hry hbw hv x0 x1 hk, Option.bind_some, if_pos rfl, part3 _ _ k0]
  rfl
theorem a_val {x k : Int} (hJ : JA a h σ) (x0 : -12 ≤ x) (x1 : x ≤ 12) (k0 : 0 ≤ k ∧ k ≤ 1) (hk : kiz (zC a) (zX a) (zY a) (zw a) x ≤ 1) : ∃ σ', s6_value σ (z3 x) (z3 k) = some (0, (if k = 0 then z6 (vT (zC a) (zX a) (zY a) (zw a) x) else z6 (vB (zC a) (zX a) (zY a) (zw a) x)), σ') ∧ JA a h σ' := by
  have m6 := a_valm (a6_answer_bottom σ) (a6_answer_top σ) hJ x0 x1 k0 hk
  apply Exists.intro
  refine ⟨?_, ?_⟩
  · unfold s6_value
    rw [m6]
    rfl
  · exact hJ
/-- plainValue in the plain mode; what else it leaves -/
theorem a_plm {x k : Int} (u v : Int64) (den : Nat → Int64) (tc td tm : Int32) (tw tx ty : Nat → Int32) (num : Nat → Int64) (tor : Nat → Int32) (pr : Nat → Int64) (so : Nat → Int32) (wt : Nat → Int64) (hp : Pl9 a) (hJ : JA a h σ) (x0 : -12 ≤ x) (x1 : x ≤ 12) (k0 : 0 ≤ k ∧ k ≤ 1) : ∃ r3, mX6_plainValue u v (a6_present_nodes_count σ) (a6_present_nodes_degree σ) (a6_present_nodes_mode σ) (a6_present_nodes_ws σ) (a6_present_nodes_xs σ) (a6_present_nodes_ys σ) den tc td tm tw tx ty num tor pr so wt (z3 x) (z3 k) = some (0, (if k = 0 then z6 (vT (zC a) (zX a) (zY a) (zw a) x) else z6 (vB (zC a) (zX a) (zY a) (zw a) x)), r3) := by
  have hk : kiz (zC a) (zX a) (zY a) (zw a) x ≤ 1 := by rw [(pl_v hp x).1]; decide
  have hM := hp.2.1
  obtain ⟨hO, h3, ⟨hv, ho, hwt⟩, hh, hf⟩ := hJ
  have hbw := hO.bw
  have h3c := h3.cp tw tx ty hO
  obtain ⟨h0, h5, m0, m1, d0, d1, hr, hry, hrw, hi⟩ := id hO
  obtain ⟨k1, k2, k3, k4, k5, k6⟩ := h3c
  rw [hM] at k3
  have h3c : N3 a (a6_present_nodes_count σ) (a6_present_nodes_degree σ) 0 (cpF tw (a6_present_nodes_ws σ)) (cpF tx (a6_present_nodes_xs σ)) (cpF ty (a6_present_nodes_ys σ)) := ⟨k1, k2, by rw [hM]; rfl, k4, k5, k6⟩
  obtain ⟨den1, num1, or1, pr1, so1, wt1, RK, hCv, -, -⟩ := reckon3 hO h3c den num tor pr so wt
  have NV := nv_y h0 h5 hr hry hbw hCv x0 x1 hk u v
  unfold mX6_plainValue
  rw [show (12 : Int32) = z3 12 from rfl, nw_y ⟨x0, x1⟩ (by omega) (by omega) (by omega) (by omega), Option.bind_some, if_pos rfl, np_y k0 (by omega) (by omega), Option.bind_some, if_pos rfl, copy3, Option.bind_some, RK, Option.bind_some, NV, Option.bind_some, if_pos rfl, part3 _ _ k0]
  exact ⟨_, rfl⟩
theorem a_pl {x k : Int} (hp : Pl9 a) (hJ : JA a h σ) (x0 : -12 ≤ x) (x1 : x ≤ 12) (k0 : 0 ≤ k ∧ k ≤ 1) : ∃ σ', s6_plainValue σ (z3 x) (z3 k) = some (0, (if k = 0 then z6 (vT (zC a) (zX a) (zY a) (zw a) x) else z6 (vB (zC a) (zX a) (zY a) (zw a) x)), σ') ∧ JA a h σ' := by
  obtain ⟨r3, m6⟩ := a_plm (a6_answer_bottom σ) (a6_answer_top σ) (a6_trial_denominator σ) (a6_trial_nodes_count σ) (a6_trial_nodes_degree σ) (a6_trial_nodes_mode σ) (a6_trial_nodes_ws σ) (a6_trial_nodes_xs σ) (a6_trial_nodes_ys σ) (a6_trial_numerator σ) (a6_trial_order σ) (a6_trial_product σ) (a6_trial_sorted σ) (a6_trial_weights σ) hp hJ x0 x1 k0
  apply Exists.intro
  refine ⟨?_, ?_⟩
  · unfold s6_plainValue
    rw [m6]
    rfl
  · exact hJ
theorem a_ek (hJ : JA a h σ) : ∃ σ', s6_errorKind σ = some (0, σ') ∧ JA a h σ' := by
  have m6 : mX6_errorKind (a6_text_faultKind σ) = some 0 := by
    unfold mX6_errorKind mX5_faultKind
    rw [hJ.2.2.2.2]
    rfl
  apply Exists.intro
  refine ⟨?_, ?_⟩
  · unfold s6_errorKind
    rw [m6]
    rfl
  · exact hJ
theorem a_mode (hM : zM a = 0) (hJ : JA a h σ) : ∃ σ', s6_mode σ = some (0, σ') ∧ JA a h σ' := by
  have m6 : mX6_mode (a6_present_nodes_mode σ) = some 0 := by
    unfold mX6_mode
    rw [hJ.2.1.2.2.1, hM]
    rfl
  apply Exists.intro
  refine ⟨?_, ?_⟩
  · unfold s6_mode
    rw [m6]
    rfl
  · exact hJ
theorem a_set (hM : zM a = 0) (hJ : JA a 0 σ) : ∃ σ', s6_setMode σ 2 0 = some (0, 0, σ') ∧ JA (zC a, 2, zD a, zX a, zY a, zW a) 1 σ' := by
  obtain ⟨hO, ⟨hc, hd, hm, hw, hx, hy⟩, ⟨hv, ho, hwt⟩, hh, hf⟩ := hJ
  obtain ⟨h0, h5, m0, m1, d0, d1, hr, hry, hrw, hi⟩ := id hO
  have hO9 : OkZ (zC a, 2, zD a, zX a, zY a, zW a) := ⟨h0, h5, by show (0 : Int) ≤ 2; omega, Int.le_refl 2, d0, d1, hr, hry, hrw, hi⟩
  have hN3 : N3 (zC a, 2, zD a, zX a, zY a, zW a) (a6_present_nodes_count σ) (a6_present_nodes_degree σ) 2 (a6_present_nodes_ws σ) (a6_present_nodes_xs σ) (a6_present_nodes_ys σ) := ⟨hc, hd, rfl, hw, hx, hy⟩
  obtain ⟨den1, num1, or1, pr1, so1, wt1, RK, hCv⟩ := reckon3 hO9 hN3 (a6_present_denominator σ) (a6_present_numerator σ) (a6_present_order σ) (a6_present_product σ) (a6_present_sorted σ) (a6_present_weights σ)
  have R3 := rem3_s (kc := a6_history_kept_E_count σ) (kd := a6_history_kept_E_degree σ) (km := a6_history_kept_E_mode σ) (kw := a6_history_kept_E_ws σ) (kx := a6_history_kept_E_xs σ) (ky := a6_history_kept_E_ys σ) (c := a6_present_nodes_count σ) (d := a6_present_nodes_degree σ) (m := a6_present_nodes_mode σ) (ws := a6_present_nodes_ws σ) (xs := a6_present_nodes_xs σ) (ys := a6_present_nodes_ys σ) (h := 0) (by omega) (by omega)
  obtain ⟨kc1, kd1, km1, kw1, kx1, ky1, R9⟩ : ∃ kc1 kd1 km1 kw1 kx1 ky1, mX2_remember (z3 0) (a6_history_kept_E_count σ) (a6_history_kept_E_degree σ) (a6_history_kept_E_mode σ) (a6_history_kept_E_ws σ) (a6_history_kept_E_xs σ) (a6_history_kept_E_ys σ) (a6_present_nodes_count σ) (a6_present_nodes_degree σ) (a6_present_nodes_mode σ) (a6_present_nodes_ws σ) (a6_present_nodes_xs σ) (a6_present_nodes_ys σ) = some (z3 1, kc1, kd1, km1, kw1, kx1, ky1) := ⟨_, _, _, _, _, _, R3⟩
  have m6 : mX6_setMode (a6_history_count σ) (a6_history_kept_E_count σ) (a6_history_kept_E_degree σ) (a6_history_kept_E_mode σ) (a6_history_kept_E_ws σ) (a6_history_kept_E_xs σ) (a6_history_kept_E_ys σ) (a6_present_denominator σ) (a6_present_nodes_count σ) (a6_present_nodes_degree σ) (a6_present_nodes_mode σ) (a6_present_nodes_ws σ) (a6_present_nodes_xs σ) (a6_present_nodes_ys σ) (a6_present_numerator σ) (a6_present_order σ) (a6_present_product σ) (a6_present_sorted σ) (a6_present_weights σ) 2 0 = some (0, 0, z3 1, kc1, kd1, km1, kw1, kx1, ky1, den1, a6_present_nodes_degree σ, 2, num1, or1, pr1, so1, wt1) := by
    unfold mX6_setMode
    rw [show mX6_needBetween 2 0 2 = some 0 from rfl, Option.bind_some, if_pos rfl, show mX6_needBetween 0 0 4 = some 0 from rfl, Option.bind_some, if_pos rfl, hh, R9, Option.bind_some, if_neg (show ¬ (2 : Int32) = 1 by decide), RK, hm, hM]
    rfl
  apply Exists.intro
  refine ⟨?_, ?_⟩
  · unfold s6_setMode
    rw [m6]
    rfl
  · exact ⟨hO9, hN3, hCv, rfl, hf⟩
theorem a_w5 (c4 : zC a ≤ 4) (hJ : JA a h σ) : ∃ v σ', s6_weight σ 5 = some (1, v, σ') ∧ JA a h σ' := by
  have hc := hJ.2.1.1
  have h0 := hJ.1.1
  have m6 : mX6_weight (a6_present_nodes_count σ) (a6_present_weights σ) 5 = some (1, 0) := by
    unfold mX6_weight
    rw [hc, l3_5, nt_n h0 (by omega) (by omega) (by omega) (by omega)]
    rfl
  refine ⟨0, ?_⟩
  apply Exists.intro
  refine ⟨?_, ?_⟩
  · unfold s6_weight
    rw [m6]
    rfl
  · exact hJ
theorem a_k13 (hJ : JA a h σ) : ∃ v σ', s6_kindAt σ 13 = some (2, v, σ') ∧ JA a h σ' := by
  have m6 : mX6_kindAt (a6_present_denominator σ) (a6_present_numerator σ) 13 = some (2, 0) := by
    unfold mX6_kindAt
    rw [show (12 : Int32) = z3 12 from rfl, l3_13, nw_n (by omega) (by omega) (by omega) (by omega) (by omega)]
    rfl
  refine ⟨0, ?_⟩
  apply Exists.intro
  refine ⟨?_, ?_⟩
  · unfold s6_kindAt
    rw [m6]
    rfl
  · exact hJ
end ANS
theorem ja0 : JA (azs []) 0 σ60 := by
  have e0 : ∀ (f : Nat → Int32) (F : Int → Int), En 0 0 f F := fun f F k k0 k1 => absurd k1 (by omega)
  refine ⟨psk0.2.2.2.2.1, ⟨rfl, rfl, rfl, e0 _ _, e0 _ _, e0 _ _⟩, ⟨⟨fun k k0 k1 => rfl, fun k k0 k1 => rfl⟩, e0 _ _, fun k k0 k1 => absurd (show k < 0 from k1) (by omega)⟩, rfl, rfl⟩
theorem none9 : ∃ σ1 v σ2, s6_many σ60 3 = some (25, σ1) ∧ s6_value σ1 0 0 = some (4, v, σ2) := by
  have hk : ∀ x, kiz (zC (azs [])) (zX (azs [])) (zY (azs [])) (zw (azs [])) x = 3 := fun x => rfl
  obtain ⟨σ1, e, j⟩ := a_many 3 ja0
  have e : s6_many σ60 3 = some (25, σ1) := by
    rw [e, smz_c (g := fun _ => 1) 25 (-12) (fun i i0 i1 => chi_y (by rw [hk i]; rfl)), smz_k]
    rfl
  obtain ⟨hO, ⟨hc, hd, hm, hw, hx, hy⟩, ⟨hv, ho, hwt⟩, hh, hf⟩ := j
  have hbw := hO.bw
  obtain ⟨h0, h5, m0, m1, d0, d1, hr, hry, hrw, hi⟩ := hO
  have m6 : mX6_value (a6_answer_bottom σ1) (a6_answer_top σ1) (a6_present_denominator σ1) (a6_present_numerator σ1) 0 0 = some (4, 0, a6_answer_bottom σ1, a6_answer_top σ1) := by
    unfold mX6_value
    rw [show (12 : Int32) = z3 12 from rfl, l3_0, nw_y (by omega) (by omega) (by omega) (by omega) (by omega), Option.bind_some, if_pos rfl, np_y (by omega) (by omega) (by omega), Option.bind_some, if_pos rfl, nv_n h0 h5 hr hry hbw hv (by omega) (by omega) (by rw [hk]; decide), Option.bind_some, if_neg (show ¬ (4 : Nat) = 0 by decide)]
    try rfl
  refine ⟨σ1, 0, ?_⟩
  apply Exists.intro
  refine ⟨e, ?_⟩
  unfold s6_value
  rw [m6]
  rfl
