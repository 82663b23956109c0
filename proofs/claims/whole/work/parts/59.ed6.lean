/-! removePoint. -/
def dz (X : Int → Int) (p : Int) (k : Int) : Int := if k < p then X k else X (k + 1)
def mz (X : Int → Int) (p j k : Int) : Int := if p ≤ k ∧ k < j then X (k + 1) else X k
theorem mz_0 (X : Int → Int) (p k : Int) : mz X p p k = X k := if_neg (by omega)
theorem mz_n (X : Int → Int) (p : Int) {j : Int} : mz X p j j = X j := if_neg (by omega)
theorem mz_p (X : Int → Int) (p : Int) {j : Int} : mz X p j (j + 1) = X (j + 1) := if_neg (by omega)
theorem mz_s (X : Int → Int) {p j k : Int} (hp : p ≤ j) : mz X p (j + 1) k = if k = j then X (j + 1) else mz X p j k := by
  unfold mz
  by_cases w : k = j
  · rw [if_pos w, w, if_pos (by omega)]
  · rw [if_neg w]
    by_cases w2 : p ≤ k ∧ k < j
    · rw [if_pos w2, if_pos (by omega)]
    · rw [if_neg w2, if_neg (by omega)]
theorem mz_e (X : Int → Int) {p k C : Int} (hk : k < C - 1) : mz X p (C - 1) k = dz X p k := by
  unfold mz dz
  by_cases w : k < p
  · rw [if_neg (by omega), if_pos w]
  · rw [if_pos (by omega), if_neg w]
section DRP
variable {C p : Int} {X Y W : Int → Int} {xs ys ws s : Nat → Int32}
theorem drop3 (h0 : 0 ≤ C) (h5 : C ≤ 5) (p0 : 0 ≤ p) (p1 : p < C) (hx : En 0 C xs X) (hy : En 0 C ys Y) (hw : En 0 C ws W) : ∃ ws1 xs1 ys1, mX3_drop (z3 C) ws xs ys (z3 p) = some (z3 (C - 1), ws1, xs1, ys1) ∧ En 0 (C - 1) xs1 (dz X p) ∧ En 0 (C - 1) ys1 (dz Y p) ∧ En 0 (C - 1) ws1 (dz W p) := by
  obtain ⟨q, e1, q1, q2⟩ := runr (fun n j (q : (Nat → Int32) × (Nat → Int32) × (Nat → Int32)) => lX3_drop_11 (z3 C) n (z3 j) q.1 q.2.1 q.2.2) (fun j q => p ≤ j ∧ ∀ k, 0 ≤ k → k < C → q.1 k.toNat = z3 (mz W p j k) ∧ q.2.1 k.toNat = z3 (mz X p j k) ∧ q.2.2 k.toNat = z3 (mz Y p j k)) (C - 1) (fun q => q)
    (fun n j q hj hp => by
      obtain ⟨q1, q2⟩ := hp
      obtain ⟨u1, u2, u3⟩ := q2 (j + 1) (by omega) (by omega)
      rw [mz_p] at u1 u2 u3
      refine ⟨(upd q.1 j.toNat (z3 (W (j + 1))), upd q.2.1 j.toNat (z3 (X (j + 1))), upd q.2.2 j.toNat (z3 (Y (j + 1)))), ?_, by omega, fun k k0 k1 => ?_⟩
      · try dsimp only
        rw [lX3_drop_11, l3_1, z3s, z3a, if_neg (fun w => by have := (z3le (by omega) (by omega) (by omega) (by omega)).1 w; omega), xOfz (by omega) (by omega), Option.bind_some, u2, putX3 _ (by omega) (by omega), Option.bind_some, yOfz (by omega) (by omega), Option.bind_some, u3, putY3 _ (by omega) (by omega), Option.bind_some, wOfz (by omega) (by omega), Option.bind_some, u1, putW3 _ (by omega) (by omega), Option.bind_some]
      · rw [mz_s _ q1, mz_s _ q1, mz_s _ q1]
        by_cases w : k = j
        · rw [if_pos w, if_pos w, if_pos w, w]
          exact ⟨upd_s _ _ _, upd_s _ _ _, upd_s _ _ _⟩
        · rw [if_neg w, if_neg w, if_neg w]
          obtain ⟨v1, v2, v3⟩ := q2 k k0 k1
          exact ⟨(upd_n (by omega)).trans v1, (upd_n (by omega)).trans v2, (upd_n (by omega)).trans v3⟩)
    (fun n q hp => by
      try dsimp only
      rw [lX3_drop_11, l3_1, z3s, if_pos ((z3le (by omega) (by omega) (by omega) (by omega)).2 (Int.le_refl _))])
    (C - 1 - p).toNat FU p (ws, xs, ys) (by omega) (fuel (by omega)) ⟨Int.le_refl _, fun k k0 k1 => by
      rw [mz_0, mz_0, mz_0]
      exact ⟨hw.z k0 k1, hx.z k0 k1, hy.z k0 k1⟩⟩
  have hh : mX3_has (z3 C) (z3 p) = some 1 := by
    unfold mX3_has
    rw [if_neg (fun w => by have := (z3lt (by omega) (by omega) (by omega) (by omega)).1 (l3_0 ▸ w); omega), if_neg (fun w => by have := (z3le (by omega) (by omega) (by omega) (by omega)).1 w; omega)]
  refine ⟨q.1, q.2.1, q.2.2, ?_, fun k k0 k1 => ?_, fun k k0 k1 => ?_, fun k k0 k1 => ?_⟩
  · unfold mX3_drop
    rw [hh, Option.bind_some, if_neg n10, e1, Option.bind_some, l3_1, z3s]
  · rw [show (0 : Int) + k = k by omega, (q2 k k0 (by omega)).2.1, mz_e _ k1]
  · rw [show (0 : Int) + k = k by omega, (q2 k k0 (by omega)).2.2, mz_e _ k1]
  · rw [show (0 : Int) + k = k by omega, (q2 k k0 (by omega)).1, mz_e _ k1]
theorem closes7 (h0 : 0 ≤ C) (h5 : C ≤ 5) (p0 : 0 ≤ p) (p1 : p < C) (hs2 : s 2 = z3 C) (hx : En 3 C s X) (hy : En 8 C s Y) (hw : En 13 C s W) : ∃ s1, mX7_closes s (z3 p) = some s1 ∧ s1 0 = s 0 ∧ s1 1 = s 1 ∧ s1 2 = z3 (C - 1) ∧ En 3 (C - 1) s1 (dz X p) ∧ En 8 (C - 1) s1 (dz Y p) ∧ En 13 (C - 1) s1 (dz W p) := by
  obtain ⟨q, e1, q1, q2, q3, q4, q5⟩ := runr (fun n j (q : Nat → Int32) => lX7_closes_12 n (z3 j) q) (fun j q => p ≤ j ∧ q 0 = s 0 ∧ q 1 = s 1 ∧ q 2 = z3 (C - 1) ∧ ∀ k, 0 ≤ k → k < C → q (3 + k).toNat = z3 (mz X p j k) ∧ q (8 + k).toNat = z3 (mz Y p j k) ∧ q (13 + k).toNat = z3 (mz W p j k)) (C - 1) (fun q => q)
    (fun n j q hj hp => by
      obtain ⟨q1, q2, q3, q4, q5⟩ := hp
      obtain ⟨g2, f2⟩ := s2c q4
      obtain ⟨u1, u2, u3⟩ := q5 (j + 1) (by omega) (by omega)
      rw [mz_p] at u1 u2 u3
      have v1 : q (3 + j + 1).toNat = z3 (X (j + 1)) := by rw [show 3 + j + 1 = 3 + (j + 1) by omega, u1]
      have v2 : upd q (3 + j).toNat (z3 (X (j + 1))) (8 + j + 1).toNat = z3 (Y (j + 1)) := by rw [upd_n (by omega), show 8 + j + 1 = 8 + (j + 1) by omega, u2]
      have v3 : upd (upd q (3 + j).toNat (z3 (X (j + 1)))) (8 + j).toNat (z3 (Y (j + 1))) (13 + j + 1).toNat = z3 (W (j + 1)) := by rw [upd_n (by omega), upd_n (by omega), show 13 + j + 1 = 13 + (j + 1) by omega, u3]
      have t3 : (3 : Int32) + z3 j = z3 (3 + j) := by rw [l3_3, z3a]
      have t8 : (8 : Int32) + z3 j = z3 (8 + j) := by rw [l3_8, z3a]
      have t13 : (13 : Int32) + z3 j = z3 (13 + j) := by rw [l3_13, z3a]
      have a3 : z3 (3 + j) + 1 = z3 (3 + j + 1) := by rw [l3_1, z3a]
      have a8 : z3 (8 + j) + 1 = z3 (8 + j + 1) := by rw [l3_1, z3a]
      have a13 : z3 (13 + j) + 1 = z3 (13 + j + 1) := by rw [l3_1, z3a]
      have aj : z3 j + 1 = z3 (j + 1) := by rw [l3_1, z3a]
      have m3 : Int32.toNatClampNeg (z3 (3 + j)) = (3 + j).toNat := z3nat (by omega) (by omega)
      have m3' : Int32.toNatClampNeg (z3 (3 + j + 1)) = (3 + j + 1).toNat := z3nat (by omega) (by omega)
      have m8 : Int32.toNatClampNeg (z3 (8 + j)) = (8 + j).toNat := z3nat (by omega) (by omega)
      have m8' : Int32.toNatClampNeg (z3 (8 + j + 1)) = (8 + j + 1).toNat := z3nat (by omega) (by omega)
      have m13 : Int32.toNatClampNeg (z3 (13 + j)) = (13 + j).toNat := z3nat (by omega) (by omega)
      have m13' : Int32.toNatClampNeg (z3 (13 + j + 1)) = (13 + j + 1).toNat := z3nat (by omega) (by omega)
      refine ⟨upd (upd (upd q (3 + j).toNat (z3 (X (j + 1)))) (8 + j).toNat (z3 (Y (j + 1)))) (13 + j).toNat (z3 (W (j + 1))), ?_, by omega, ?_, ?_, ?_, fun k k0 k1 => ?_⟩
      · rw [lX7_closes_12, if_neg g2, f2, if_neg (fun w => by have := (z3le (by omega) (by omega) (by omega) (by omega)).1 w; omega), t3, t8, t13, a3, a8, a13, if_neg (gix (by omega) (by omega) (by decide)), if_neg (gix (by omega) (by omega) (by decide)), if_neg (gix (by omega) (by omega) (by decide)), if_neg (gix (by omega) (by omega) (by decide)), if_neg (gix (by omega) (by omega) (by decide)), if_neg (gix (by omega) (by omega) (by decide)), m3, m3', m8, m8', m13, m13', v1, v2, v3, aj]
      · rw [upd_n (by omega), upd_n (by omega), upd_n (by omega), q2]
      · rw [upd_n (by omega), upd_n (by omega), upd_n (by omega), q3]
      · rw [upd_n (by omega), upd_n (by omega), upd_n (by omega), q4]
      · rw [mz_s _ q1, mz_s _ q1, mz_s _ q1]
        by_cases w : k = j
        · rw [if_pos w, if_pos w, if_pos w, w]
          refine ⟨?_, ?_, ?_⟩
          · rw [upd_n (by omega), upd_n (by omega), upd_s]
          · rw [upd_n (by omega), upd_s]
          · rw [upd_s]
        · rw [if_neg w, if_neg w, if_neg w]
          obtain ⟨v1, v2, v3⟩ := q5 k k0 k1
          refine ⟨?_, ?_, ?_⟩
          · rw [upd_n (by omega), upd_n (by omega), upd_n (by omega), v1]
          · rw [upd_n (by omega), upd_n (by omega), upd_n (by omega), v2]
          · rw [upd_n (by omega), upd_n (by omega), upd_n (by omega), v3])
    (fun n q hp => by
      obtain ⟨q1, q2, q3, q4, q5⟩ := hp
      obtain ⟨g2, f2⟩ := s2c q4
      rw [lX7_closes_12, if_neg g2, f2, if_pos ((z3le (by omega) (by omega) (by omega) (by omega)).2 (Int.le_refl _))])
    (C - 1 - p).toNat FU p (upd s 2 (z3 (C - 1))) (by omega) (fuel (by omega)) ⟨Int.le_refl _, rfl, rfl, rfl, fun k k0 k1 => by
      rw [mz_0, mz_0, mz_0, upd_n (by omega), upd_n (by omega), upd_n (by omega)]
      exact ⟨hx k k0 k1, hy k k0 k1, hw k k0 k1⟩⟩
  obtain ⟨g2, f2⟩ := s2c hs2
  refine ⟨q, ?_, q2, q3, q4, fun k k0 k1 => ?_, fun k k0 k1 => ?_, fun k k0 k1 => ?_⟩
  · unfold mX7_closes
    rw [if_neg g2, if_neg g2, f2, l3_1, z3s, show Int32.toNatClampNeg 2 = 2 by decide, e1]
    rfl
  · rw [(q5 k k0 (by omega)).1, mz_e _ k1]
  · rw [(q5 k k0 (by omega)).2.1, mz_e _ k1]
  · rw [(q5 k k0 (by omega)).2.2, mz_e _ k1]
theorem Rz.d {lo hi : Int} (h : Rz C lo hi X) (p0 : 0 ≤ p) : Rz (C - 1) lo hi (dz X p) := by
  intro k k0 k1
  unfold dz
  split
  · exact h k k0 (by omega)
  · exact h (k + 1) (by omega) (by omega)
theorem Inj.d (h : Inj C X) (p0 : 0 ≤ p) : Inj (C - 1) (dz X p) := by
  intro j k j0 j1 k0 k1 e
  unfold dz at e
  split at e <;> split at e
  · exact h j k j0 (by omega) k0 (by omega) e
  · have := h j (k + 1) j0 (by omega) (by omega) (by omega) e
    omega
  · have := h (j + 1) k (by omega) (by omega) k0 (by omega) e
    omega
  · have := h (j + 1) (k + 1) (by omega) (by omega) (by omega) (by omega) e
    omega
end DRP
/-- without a point -/
def wo (a : AZ) (p : Int) : AZ := (zC a - 1, zM a, zD a, dz (zX a) p, dz (zY a) p, dz (zW a) p)
theorem OkZ.d {a : AZ} (hO : OkZ a) {p : Int} (p0 : 0 ≤ p) (p1 : p < zC a) : OkZ (wo a p) := by
  obtain ⟨h0, h5, m0, m1, d0, d1, hr, hry, hrw, hi⟩ := hO
  exact ⟨by show 0 ≤ zC a - 1; omega, by show zC a - 1 ≤ 5; omega, m0, m1, d0, d1, hr.d p0, hry.d p0, hrw.d p0, hi.d p0⟩
theorem ok_35 : SOK q_35 := by
  intro u z h
  obtain ⟨a, hO, ⟨⟨hc, hd, hm, hw, hx, hy⟩, ⟨hv, ho, hwt⟩⟩, ⟨s0, s1, s2, tx, ty, tw⟩⟩ := h.1
  have O := hO
  obtain ⟨h0, h5, m0, m1, d0, d1, hr, hry, hrw, hi⟩ := O
  have hbw := hO.bw
  obtain ⟨x, x0, x1, hu⟩ := ex3 (u 1)
  unfold q_35
  rw [hu]
  by_cases c1 : 0 ≤ x ∧ x < zC a
  · have nt := nt_y h0 h5 c1 x0 x1
    rw [← hc] at nt
    obtain ⟨hc1, kc1, kd1, km1, kw1, kx1, ky1, ed1, hi1, R3, R7, hJ1⟩ := rememb h.2.1 hO ⟨hc, hd, hm, hw, hx, hy⟩ ⟨s0, s1, s2, tx, ty, tw⟩
    obtain ⟨ws1, xs1, ys1, D3, dx, dy, dw⟩ := drop3 h0 h5 c1.1 c1.2 hx hy hw
    rw [← hc] at D3
    obtain ⟨sA, C7, t0, t1, t2, tx1, ty1, tw1⟩ := closes7 h0 h5 c1.1 c1.2 s2 tx ty tw
    have hO9' := hO.d c1.1 c1.2
    obtain ⟨a9, ea9⟩ : ∃ a9, a9 = wo a x := ⟨_, rfl⟩
    rw [← ea9] at hO9'
    have hO9 := hO9'
    have hN3 : N3 a9 (z3 (zC a - 1)) (a6_present_nodes_degree z.1) (a6_present_nodes_mode z.1) ws1 xs1 ys1 := by
      rw [ea9]
      exact ⟨rfl, hd, hm, dw, dx, dy⟩
    have hN7' : N7 a9 sA := by
      rw [ea9]
      exact ⟨t0.trans s0, t1.trans s1, t2, tx1, ty1, tw1⟩
    clear s1
    obtain ⟨s1, es1⟩ : ∃ s1, s1 = sA := ⟨_, rfl⟩
    rw [← es1] at hN7' C7 t2
    have hN7 := hN7'
    obtain ⟨den1, num1, or1, pr1, so1, wt1, RK, hCv⟩ := reckon3 hO9 hN3 (a6_present_denominator z.1) (a6_present_numerator z.1) (a6_present_order z.1) (a6_present_product z.1) (a6_present_sorted z.1) (a6_present_weights z.1)
    obtain ⟨gg2, ff2⟩ := s2c t2
    have m6 : mX6_removePoint (a6_history_count z.1) (a6_history_kept_E_count z.1) (a6_history_kept_E_degree z.1) (a6_history_kept_E_mode z.1) (a6_history_kept_E_ws z.1) (a6_history_kept_E_xs z.1) (a6_history_kept_E_ys z.1) (a6_present_denominator z.1) (a6_present_nodes_count z.1) (a6_present_nodes_degree z.1) (a6_present_nodes_mode z.1) (a6_present_nodes_ws z.1) (a6_present_nodes_xs z.1) (a6_present_nodes_ys z.1) (a6_present_numerator z.1) (a6_present_order z.1) (a6_present_product z.1) (a6_present_sorted z.1) (a6_present_weights z.1) (z3 x) = some (0, z3 (zC a - 1), hc1, kc1, kd1, km1, kw1, kx1, ky1, den1, z3 (zC a - 1), ws1, xs1, ys1, num1, or1, pr1, so1, wt1) := by
      unfold mX6_removePoint mX3_size
      rw [nt, Option.bind_some, if_pos rfl, R3, Option.bind_some, D3, Option.bind_some, RK]
      rfl
    have m7 : mX7_removePoint (a7_edits z.2.1) (a7_history z.2.1) (a7_s z.2.1) (a7_thrown z.2.1) (z3 x) = some (z3 (zC a - 1), ed1, hi1, s1, 0) := by
      unfold mX7_removePoint
      rw [it_y s2 h0 h5 c1 x0 x1, Option.bind_some, gd1, Option.bind_some, if_neg n10, R7, Option.bind_some, C7, Option.bind_some, if_neg gg2, ff2]
    have E6 : ∃ σ1 o1, h_removePoint z.1 (z3 x) z.2.2.1 = some (0, σ1, o1) ∧ o1 = vp_updL z.2.2.1 0 (Int32.toInt64 (z3 (zC a - 1))) ∧ ∀ τ1, JH hc1 kc1 km1 kd1 kw1 kx1 ky1 (a7_edits τ1) (a7_history τ1) → N7 a9 (a7_s τ1) → JB (a6_text_filled z.1) (a7_buffered τ1) (a6_text_bytes z.1) (a7_buffer τ1) → (a6_text_faultKind z.1 = a7_errorKind τ1 ∧ a6_text_faultPosition z.1 = a7_errorPosition τ1) → JO (a6_output_count z.1) (a7_outputLength τ1) (a6_output_signs z.1) (a7_output τ1) → JZ σ1 τ1 := by
      apply Exists.intro
      apply Exists.intro
      refine ⟨?_, ?_, ?_⟩
      · unfold h_removePoint s6_removePoint
        rw [m6]
        rfl
      · rfl
      · exact fun τ1 x1 x2 x3 x4 x5 => ⟨⟨a9, hO9, ⟨hN3, hCv⟩, x2⟩, x1, x3, x4, x5⟩
    have E7 : ∃ v1 τ1, s7_removePoint z.2.1 (z3 x) = some (v1, τ1) ∧ a7_thrown τ1 = 0 ∧ (Int32.toInt64 (z3 (zC a - 1))) = (Int32.toInt64) v1 ∧ a7_edits τ1 = ed1 ∧ a7_history τ1 = hi1 ∧ a7_s τ1 = s1 ∧ a7_buffered τ1 = a7_buffered z.2.1 ∧ a7_buffer τ1 = a7_buffer z.2.1 ∧ a7_errorKind τ1 = a7_errorKind z.2.1 ∧ a7_errorPosition τ1 = a7_errorPosition z.2.1 ∧ a7_outputLength τ1 = a7_outputLength z.2.1 ∧ a7_output τ1 = a7_output z.2.1 := by
      apply Exists.intro
      apply Exists.intro
      refine ⟨?_, ?_, ?_, ?_⟩
      · unfold s7_removePoint
        rw [m7]
        rfl
      · rfl
      · rfl
      · exact ⟨rfl, rfl, rfl, rfl, rfl, rfl, rfl, rfl, rfl⟩
    obtain ⟨σ1, o1, f6, v6, j6⟩ := E6
    obtain ⟨w1, τ1, f7, t7, v7, i1, i2, i3, i4, i5, i6, i7, i8, i9⟩ := E7
    refine fin1 (Int32.toInt64) f6 f7 t7 (fun _ => by rw [v6, updL_s]; exact v7) (j6 τ1 ?_ ?_ ?_ ?_ ?_)
    · rw [i1, i2]
      exact hJ1
    · rw [i3]
      exact hN7
    · rw [i4, i5]
      exact h.2.2.1
    · rw [i6, i7]
      exact h.2.2.2.1
    · rw [i8, i9]
      exact h.2.2.2.2
  · have nt := nt_n h0 h5 c1 x0 x1
    rw [← hc] at nt
    have m6 : mX6_removePoint (a6_history_count z.1) (a6_history_kept_E_count z.1) (a6_history_kept_E_degree z.1) (a6_history_kept_E_mode z.1) (a6_history_kept_E_ws z.1) (a6_history_kept_E_xs z.1) (a6_history_kept_E_ys z.1) (a6_present_denominator z.1) (a6_present_nodes_count z.1) (a6_present_nodes_degree z.1) (a6_present_nodes_mode z.1) (a6_present_nodes_ws z.1) (a6_present_nodes_xs z.1) (a6_present_nodes_ys z.1) (a6_present_numerator z.1) (a6_present_order z.1) (a6_present_product z.1) (a6_present_sorted z.1) (a6_present_weights z.1) (z3 x) = some (1, 0, a6_history_count z.1, a6_history_kept_E_count z.1, a6_history_kept_E_degree z.1, a6_history_kept_E_mode z.1, a6_history_kept_E_ws z.1, a6_history_kept_E_xs z.1, a6_history_kept_E_ys z.1, a6_present_denominator z.1, a6_present_nodes_count z.1, a6_present_nodes_ws z.1, a6_present_nodes_xs z.1, a6_present_nodes_ys z.1, a6_present_numerator z.1, a6_present_order z.1, a6_present_product z.1, a6_present_sorted z.1, a6_present_weights z.1) := by
      unfold mX6_removePoint
      rw [nt]
      rfl
    have m7 : mX7_removePoint (a7_edits z.2.1) (a7_history z.2.1) (a7_s z.2.1) (a7_thrown z.2.1) (z3 x) = some (0, a7_edits z.2.1, a7_history z.2.1, a7_s z.2.1, 1) := by
      unfold mX7_removePoint
      rw [it_n s2 h0 h5 c1 x0 x1]
      rfl
    have E6 : ∃ σ1 o1, h_removePoint z.1 (z3 x) z.2.2.1 = some (1, σ1, o1) ∧ (o1 0 = o1 0) ∧ ((1 : Int32) = 0 → o1 = vp_updL z.2.2.1 0 (0)) ∧ ∀ τ, JZ z.1 τ → JZ σ1 τ := by
      apply Exists.intro
      apply Exists.intro
      refine ⟨?_, rfl, ?_, ?_⟩
      · unfold h_removePoint s6_removePoint
        rw [m6]
        rfl
      · exact fun w => absurd w (by decide)
      · exact fun τ h => h
    have E7 : ∃ v1 τ1, s7_removePoint z.2.1 (z3 x) = some (v1, τ1) ∧ a7_thrown τ1 = 1 ∧ ((1 : Int32) = 0 → (0) = (Int32.toInt64) v1) ∧ ∀ σ, JZ σ z.2.1 → JZ σ τ1 := by
      apply Exists.intro
      apply Exists.intro
      refine ⟨?_, ?_, ?_, ?_⟩
      · unfold s7_removePoint
        rw [m7]
        rfl
      · rfl
      · exact fun w => absurd w (by decide)
      · exact fun σ h => h
    obtain ⟨σ1, o1, e6, -, v6, j6⟩ := E6
    obtain ⟨w1, τ1, e7, t7, v7, j7⟩ := E7
    exact fin1 (Int32.toInt64) e6 e7 t7 (fun w => by rw [v6 w, updL_s]; exact v7 w) (j7 _ (j6 _ h))
