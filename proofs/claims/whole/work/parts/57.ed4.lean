/-! Edits: undo, addPoint, removePoint. -/
theorem rec3 {kc km kd : Nat → Int32} {kw kx ky : Nat → Nat → Int32} {c d m : Int32} {ws xs ys : Nat → Int32} {h : Int} (h0 : 0 < h) (h1 : h ≤ 10) : mX2_recall (z3 h) kc kd km kw kx ky c d m ws xs ys = some (1, z3 (h - 1), kc (h - 1).toNat, kd (h - 1).toNat, km (h - 1).toNat, cpF ws (kw (h - 1).toNat), cpF xs (kx (h - 1).toNat), cpF ys (ky (h - 1).toNat)) := by
  have e : h = 1 ∨ h = 2 ∨ h = 3 ∨ h = 4 ∨ h = 5 ∨ h = 6 ∨ h = 7 ∨ h = 8 ∨ h = 9 ∨ h = 10 := by omega
  unfold mX2_recall
  rcases e with rfl | rfl | rfl | rfl | rfl | rfl | rfl | rfl | rfl | rfl
  · rw [if_neg (by decide), if_pos (by decide), if_pos (by decide), copy3]; rfl
  · rw [if_neg (by decide), if_pos (by decide), if_neg (by decide), if_pos (by decide), copy3]; rfl
  · rw [if_neg (by decide), if_pos (by decide), if_neg (by decide), if_neg (by decide), if_pos (by decide), copy3]; rfl
  · rw [if_neg (by decide), if_pos (by decide), if_neg (by decide), if_neg (by decide), if_neg (by decide), if_pos (by decide), copy3]; rfl
  · rw [if_neg (by decide), if_pos (by decide), if_neg (by decide), if_neg (by decide), if_neg (by decide), if_neg (by decide), if_pos (by decide), copy3]; rfl
  · rw [if_neg (by decide), if_pos (by decide), if_neg (by decide), if_neg (by decide), if_neg (by decide), if_neg (by decide), if_neg (by decide), if_pos (by decide), copy3]; rfl
  · rw [if_neg (by decide), if_pos (by decide), if_neg (by decide), if_neg (by decide), if_neg (by decide), if_neg (by decide), if_neg (by decide), if_neg (by decide), if_pos (by decide), copy3]; rfl
  · rw [if_neg (by decide), if_pos (by decide), if_neg (by decide), if_neg (by decide), if_neg (by decide), if_neg (by decide), if_neg (by decide), if_neg (by decide), if_neg (by decide), if_pos (by decide), copy3]; rfl
  · rw [if_neg (by decide), if_pos (by decide), if_neg (by decide), if_neg (by decide), if_neg (by decide), if_neg (by decide), if_neg (by decide), if_neg (by decide), if_neg (by decide), if_neg (by decide), if_pos (by decide), copy3]; rfl
  · rw [if_neg (by decide), if_pos (by decide), if_neg (by decide), if_neg (by decide), if_neg (by decide), if_neg (by decide), if_neg (by decide), if_neg (by decide), if_neg (by decide), if_neg (by decide), if_neg (by decide), if_pos (by decide), copy3]; rfl
theorem rec7_in {h : Int} (h0 : 0 ≤ h) (h1 : h < 10) (hi s : Nat → Int32) : ∃ s1, lX7_undo_26 (z3 h) hi FU (z3 0) s = some s1 ∧ (∀ i, i < 18 → s1 i = hi (18 * h.toNat + i)) := by
  obtain ⟨s1, e1, p1, p2⟩ := runr (fun n j (a : Nat → Int32) => lX7_undo_26 (z3 h) hi n (z3 j) a) (fun j a => 0 ≤ j ∧ (∀ i : Nat, (i : Int) < j → a i = hi (18 * h.toNat + i))) 18 (fun a => a)
    (fun n j a hj hp => by
      obtain ⟨p1, p2⟩ := hp
      refine ⟨upd a j.toNat (hi (18 * h.toNat + j.toNat)), ?_, by omega, fun i hi => ?_⟩
      · rw [lX7_undo_26, if_neg (fun w => by have := (z3le (by omega) (by omega) (by omega) (by omega)).1 (l3_18 ▸ w); omega), show (18 : Int32) = z3 18 from rfl, z3m, z3a, if_neg (gix (by omega) (by omega) (by decide)), if_neg (gix p1 (by omega) (by decide)), z3nat (by omega) (by omega), z3nat (by omega) (by omega), l3_1, z3a, show (18 * h + j).toNat = 18 * h.toNat + j.toNat by omega]
      · by_cases w : (i : Int) = j
        · rw [show j.toNat = i by omega, upd_s]
        · rw [upd_n (by omega)]
          exact p2 i (by omega))
    (fun n a hp => by
      rw [lX7_undo_26, if_pos (by decide)])
    18 FU 0 s (by omega) (by decide) ⟨by omega, fun i hi => by omega⟩
  exact ⟨s1, e1, fun i hi => p2 i (by omega)⟩
theorem ok_39 : SOK q_39 := by
  intro u z h
  obtain ⟨a, hO, ⟨⟨hc, hd, hm, hw, hx, hy⟩, ⟨hv, ho, hwt⟩⟩, ⟨s0, s1, s2, tx, ty, tw⟩⟩ := h.1
  have O := hO
  obtain ⟨h0, h5, m0, m1, d0, d1, hr, hry, hrw, hi⟩ := O
  have hbw := hO.bw
  unfold q_39
  obtain ⟨g, q, g0, g1, eh, ee, hq⟩ := h.2.1
  by_cases c : g = 0
  · subst c
    have m6 : mX6_undo (a6_history_count z.1) (a6_history_kept_E_count z.1) (a6_history_kept_E_degree z.1) (a6_history_kept_E_mode z.1) (a6_history_kept_E_ws z.1) (a6_history_kept_E_xs z.1) (a6_history_kept_E_ys z.1) (a6_present_denominator z.1) (a6_present_nodes_count z.1) (a6_present_nodes_degree z.1) (a6_present_nodes_mode z.1) (a6_present_nodes_ws z.1) (a6_present_nodes_xs z.1) (a6_present_nodes_ys z.1) (a6_present_numerator z.1) (a6_present_order z.1) (a6_present_product z.1) (a6_present_sorted z.1) (a6_present_weights z.1) = some (-1, a6_history_count z.1, a6_present_denominator z.1, a6_present_nodes_count z.1, a6_present_nodes_degree z.1, a6_present_nodes_mode z.1, a6_present_nodes_ws z.1, a6_present_nodes_xs z.1, a6_present_nodes_ys z.1, a6_present_numerator z.1, a6_present_order z.1, a6_present_product z.1, a6_present_sorted z.1, a6_present_weights z.1) := by
      unfold mX6_undo mX2_recall
      rw [eh]
      rfl
    have m7 : mX7_undo (a7_edits z.2.1) (a7_history z.2.1) (a7_s z.2.1) (a7_thrown z.2.1) = some (-1, a7_edits z.2.1, a7_s z.2.1, 0) := by
      unfold mX7_undo
      rw [ee, if_pos (by decide)]
    have E6 : ∃ σ1, s6_undo z.1 = some (-1, σ1) ∧ ∀ τ, JZ z.1 τ → JZ σ1 τ := by
      apply Exists.intro
      refine ⟨?_, ?_⟩
      · unfold s6_undo
        rw [m6]
        rfl
      · exact fun τ h => h
    have E7 : ∃ τ1, s7_undo z.2.1 = some (-1, τ1) ∧ ∀ σ, JZ σ z.2.1 → JZ σ τ1 := by
      apply Exists.intro
      refine ⟨?_, ?_⟩
      · unfold s7_undo
        rw [m7]
        rfl
      · exact fun σ h => h
    obtain ⟨σ1, f6, j6⟩ := E6
    obtain ⟨τ1, f7, j7⟩ := E7
    exact fin0 f6 f7 (j7 _ (j6 _ h))
  · obtain ⟨hO9', n3, n7⟩ := hq (g - 1) (by omega) (by omega)
    obtain ⟨a9, ea9⟩ : ∃ a9, a9 = q (g - 1) := ⟨_, rfl⟩
    rw [← ea9] at hO9' n3 n7
    have hO9 := hO9'
    have hN3 := n3.cp (a6_present_nodes_ws z.1) (a6_present_nodes_xs z.1) (a6_present_nodes_ys z.1) hO9
    obtain ⟨s1', M7, M8⟩ := rec7_in (h := g - 1) (by omega) (by omega) (a7_history z.2.1) (a7_s z.2.1)
    have hN7' : N7 a9 s1' := n7.c hO9 (fun i hi => M8 i hi)
    clear s1
    obtain ⟨s1, es1⟩ : ∃ s1, s1 = s1' := ⟨_, rfl⟩
    rw [← es1] at M7 hN7'
    have hN7 := hN7'
    obtain ⟨den1, num1, or1, pr1, so1, wt1, RK, hCv⟩ := reckon3 hO9 hN3 (a6_present_denominator z.1) (a6_present_numerator z.1) (a6_present_order z.1) (a6_present_product z.1) (a6_present_sorted z.1) (a6_present_weights z.1)
    have hJ1 : JH (z3 (g - 1)) (a6_history_kept_E_count z.1) (a6_history_kept_E_mode z.1) (a6_history_kept_E_degree z.1) (a6_history_kept_E_ws z.1) (a6_history_kept_E_xs z.1) (a6_history_kept_E_ys z.1) (z3 (g - 1)) (a7_history z.2.1) := ⟨g - 1, q, by omega, by omega, rfl, rfl, fun e e0 e1 => hq e e0 (by omega)⟩
    obtain ⟨hc1, ehc1⟩ : ∃ hc1, hc1 = z3 (g - 1) := ⟨_, rfl⟩
    obtain ⟨ed1, eed1⟩ : ∃ ed1, ed1 = z3 (g - 1) := ⟨_, rfl⟩
    obtain ⟨kc1, ekc1⟩ : ∃ kc1, kc1 = a6_history_kept_E_count z.1 := ⟨_, rfl⟩
    obtain ⟨km1, ekm1⟩ : ∃ km1, km1 = a6_history_kept_E_mode z.1 := ⟨_, rfl⟩
    obtain ⟨kd1, ekd1⟩ : ∃ kd1, kd1 = a6_history_kept_E_degree z.1 := ⟨_, rfl⟩
    obtain ⟨kw1, ekw1⟩ : ∃ kw1, kw1 = a6_history_kept_E_ws z.1 := ⟨_, rfl⟩
    obtain ⟨kx1, ekx1⟩ : ∃ kx1, kx1 = a6_history_kept_E_xs z.1 := ⟨_, rfl⟩
    obtain ⟨ky1, eky1⟩ : ∃ ky1, ky1 = a6_history_kept_E_ys z.1 := ⟨_, rfl⟩
    obtain ⟨hi1, ehi1⟩ : ∃ hi1, hi1 = a7_history z.2.1 := ⟨_, rfl⟩
    have m6 : mX6_undo (a6_history_count z.1) (a6_history_kept_E_count z.1) (a6_history_kept_E_degree z.1) (a6_history_kept_E_mode z.1) (a6_history_kept_E_ws z.1) (a6_history_kept_E_xs z.1) (a6_history_kept_E_ys z.1) (a6_present_denominator z.1) (a6_present_nodes_count z.1) (a6_present_nodes_degree z.1) (a6_present_nodes_mode z.1) (a6_present_nodes_ws z.1) (a6_present_nodes_xs z.1) (a6_present_nodes_ys z.1) (a6_present_numerator z.1) (a6_present_order z.1) (a6_present_product z.1) (a6_present_sorted z.1) (a6_present_weights z.1) = some (z3 (g - 1), z3 (g - 1), den1, (a6_history_kept_E_count z.1) (g - 1).toNat, (a6_history_kept_E_degree z.1) (g - 1).toNat, (a6_history_kept_E_mode z.1) (g - 1).toNat, cpF (a6_present_nodes_ws z.1) ((a6_history_kept_E_ws z.1) (g - 1).toNat), cpF (a6_present_nodes_xs z.1) ((a6_history_kept_E_xs z.1) (g - 1).toNat), cpF (a6_present_nodes_ys z.1) ((a6_history_kept_E_ys z.1) (g - 1).toNat), num1, or1, pr1, so1, wt1) := by
      unfold mX6_undo mX2_size
      rw [eh, rec3 (by omega) g1, Option.bind_some, if_neg n10, RK]
      rfl
    have m7 : mX7_undo (a7_edits z.2.1) (a7_history z.2.1) (a7_s z.2.1) (a7_thrown z.2.1) = some (z3 (g - 1), z3 (g - 1), s1, 0) := by
      unfold mX7_undo
      rw [ee, if_neg (fun w => c ((z3eq (by omega) (by omega) (by omega) (by omega)).1 (Eq.trans w l3_0))), l3_1, z3s, l3_0, M7]
      rfl
    have E6 : ∃ σ1, s6_undo z.1 = some (z3 (g - 1), σ1) ∧ ∀ τ1, JH (z3 (g - 1)) (a6_history_kept_E_count z.1) (a6_history_kept_E_mode z.1) (a6_history_kept_E_degree z.1) (a6_history_kept_E_ws z.1) (a6_history_kept_E_xs z.1) (a6_history_kept_E_ys z.1) (a7_edits τ1) (a7_history τ1) → N7 a9 (a7_s τ1) → JB (a6_text_filled z.1) (a7_buffered τ1) (a6_text_bytes z.1) (a7_buffer τ1) → (a6_text_faultKind z.1 = a7_errorKind τ1 ∧ a6_text_faultPosition z.1 = a7_errorPosition τ1) → JO (a6_output_count z.1) (a7_outputLength τ1) (a6_output_signs z.1) (a7_output τ1) → JZ σ1 τ1 := by
      apply Exists.intro
      refine ⟨?_, ?_⟩
      · unfold s6_undo
        rw [m6]
        rfl
      · exact fun τ1 x1 x2 x3 x4 x5 => ⟨⟨a9, hO9, ⟨hN3, hCv⟩, x2⟩, x1, x3, x4, x5⟩
    have E7 : ∃ τ1, s7_undo z.2.1 = some (z3 (g - 1), τ1) ∧ a7_edits τ1 = z3 (g - 1) ∧ a7_history τ1 = a7_history z.2.1 ∧ a7_s τ1 = s1 ∧ a7_buffered τ1 = a7_buffered z.2.1 ∧ a7_buffer τ1 = a7_buffer z.2.1 ∧ a7_errorKind τ1 = a7_errorKind z.2.1 ∧ a7_errorPosition τ1 = a7_errorPosition z.2.1 ∧ a7_outputLength τ1 = a7_outputLength z.2.1 ∧ a7_output τ1 = a7_output z.2.1 := by
      apply Exists.intro
      refine ⟨?_, ?_⟩
      · unfold s7_undo
        rw [m7]
        rfl
      · exact ⟨rfl, rfl, rfl, rfl, rfl, rfl, rfl, rfl, rfl⟩
    obtain ⟨σ1, f6, j6⟩ := E6
    obtain ⟨τ1, f7, i1, i2, i3, i4, i5, i6, i7, i8, i9⟩ := E7
    refine fin0 f6 f7 (j6 τ1 ?_ ?_ ?_ ?_ ?_)
    · rw [i1, i2]
      exact hJ1
    · rw [i3]
      exact hN7
    · rw [i4, i5]
      exact h.2.2.1
    · rw [i6, i7]
      exact h.2.2.2.1
    · rw [i8, i9]
      exact h.2.2.2.2
section APP
variable {C v : Int} {X : Int → Int}
theorem En.a {b : Int} {f : Nat → Int32} (h : En b C f X) (b0 : 0 ≤ b) (c0 : 0 ≤ C) : En b (C + 1) (upd f (b + C).toNat (z3 v)) (uz X C v) := by
  intro k k0 k1
  unfold uz
  by_cases w : k = C
  · rw [w, upd_s, if_pos rfl]
  · rw [upd_n (by omega), if_neg w]
    exact h k k0 (by omega)
theorem Rz.a {lo hi : Int} (h : Rz C lo hi X) (h1 : lo ≤ v) (h2 : v ≤ hi) : Rz (C + 1) lo hi (uz X C v) := by
  intro k k0 k1
  unfold uz
  by_cases w : k = C
  · rw [if_pos w]
    omega
  · rw [if_neg w]
    exact h k k0 (by omega)
theorem Inj.a (h : Inj C X) (hf : Fre C X (-1) v) : Inj (C + 1) (uz X C v) := by
  intro j k j0 j1 k0 k1 e
  unfold uz at e
  by_cases w : j = C
  · by_cases w2 : k = C
    · omega
    · rw [if_pos w, if_neg w2] at e
      exact absurd e.symm (hf k k0 (by omega) (by omega))
  · by_cases w2 : k = C
    · rw [if_neg w, if_pos w2] at e
      exact absurd e (hf j j0 (by omega) (by omega))
    · rw [if_neg w, if_neg w2] at e
      exact h j k j0 (by omega) k0 (by omega) e
end APP
