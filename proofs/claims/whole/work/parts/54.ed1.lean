/-! Edits of one number: move, setValue, setWeight. -/
section PUT
variable {C x to : Int} {X : Int → Int} {xs s : Nat → Int32}
theorem putX3 (v : Int32) {k : Int} (h1 : 0 ≤ k) (h2 : k < 5) : mX3_putX xs (z3 k) v = some (upd xs k.toNat v) := by
  unfold mX3_putX
  rw [if_neg (fun w => by have := (z3lt (by omega) (by omega) (by omega) (by omega)).1 (l3_0 ▸ w); omega), if_neg (fun w => by have := (z3le (by omega) (by omega) (by omega) (by omega)).1 (l3_5 ▸ w); omega), if_neg (gix h1 (by omega) (by decide)), z3nat (by omega) (by omega)]
theorem putY3 (v : Int32) {k : Int} (h1 : 0 ≤ k) (h2 : k < 5) : mX3_putY xs (z3 k) v = some (upd xs k.toNat v) := by
  unfold mX3_putY
  rw [if_neg (fun w => by have := (z3lt (by omega) (by omega) (by omega) (by omega)).1 (l3_0 ▸ w); omega), if_neg (fun w => by have := (z3le (by omega) (by omega) (by omega) (by omega)).1 (l3_5 ▸ w); omega), if_neg (gix h1 (by omega) (by decide)), z3nat (by omega) (by omega)]
theorem putW3 (v : Int32) {k : Int} (h1 : 0 ≤ k) (h2 : k < 5) : mX3_putW xs (z3 k) v = some (upd xs k.toNat v) := by
  unfold mX3_putW
  rw [if_neg (fun w => by have := (z3lt (by omega) (by omega) (by omega) (by omega)).1 (l3_0 ▸ w); omega), if_neg (fun w => by have := (z3le (by omega) (by omega) (by omega) (by omega)).1 (l3_5 ▸ w); omega), if_neg (gix h1 (by omega) (by decide)), z3nat (by omega) (by omega)]
/-- one number set -/
def uz (X : Int → Int) (x v : Int) : Int → Int := fun k => if k = x then v else X k
theorem En.u {b : Int} {f : Nat → Int32} (h : En b C f X) (b0 : 0 ≤ b) (x0 : 0 ≤ x) (v : Int) : En b C (upd f (b + x).toNat (z3 v)) (uz X x v) := by
  intro k k0 k1
  unfold uz
  by_cases w : k = x
  · rw [w, upd_s, if_pos rfl]
  · rw [upd_n (by omega), if_neg w]
    exact h k k0 k1
theorem En.u0 {f : Nat → Int32} (h : En 0 C f X) (x0 : 0 ≤ x) (v : Int) : En 0 C (upd f x.toNat (z3 v)) (uz X x v) := by
  have := h.u (by omega) x0 v
  rwa [show (0 : Int) + x = x by omega] at this
theorem En.o {b : Int} {f : Nat → Int32} (h : En b C f X) {j : Nat} (v : Int32) (hj : ∀ k : Int, 0 ≤ k → k < C → (b + k).toNat ≠ j) : En b C (upd f j v) X := by
  intro k k0 k1
  rw [upd_n (hj k k0 k1)]
  exact h k k0 k1
theorem Rz.u {lo hi v : Int} (h : Rz C lo hi X) (h1 : lo ≤ v) (h2 : v ≤ hi) : Rz C lo hi (uz X x v) := by
  intro k k0 k1
  unfold uz
  split
  · omega
  · exact h k k0 k1
/-- no other point has this X -/
def Fre (C : Int) (X : Int → Int) (x to : Int) : Prop := ∀ k, 0 ≤ k → k < C → k ≠ x → X k ≠ to
theorem Inj.u (h : Inj C X) (hf : Fre C X x to) : Inj C (uz X x to) := by
  intro j k j0 j1 k0 k1 e
  unfold uz at e
  by_cases w : j = x
  · by_cases w2 : k = x
    · omega
    · rw [if_pos w, if_neg w2] at e
      exact absurd e.symm (hf k k0 k1 w2)
  · by_cases w2 : k = x
    · rw [if_neg w, if_pos w2] at e
      exact absurd e (hf j j0 j1 w)
    · rw [if_neg w, if_neg w2] at e
      exact h j k j0 j1 k0 k1 e
theorem free3 (h0 : 0 ≤ C) (h5 : C ≤ 5) (hx : En 0 C xs X) (hr : Rz C (-9) 9 X) (hi : Inj C X) (x0 : -1 ≤ x) (x1 : x < C) (t0 : -2147483648 ≤ to) (t1 : to < 2147483648) : (Fre C X x to → mX3_isFreeFor (z3 C) xs (z3 x) (z3 to) = some 1) ∧ (¬ Fre C X x to → mX3_isFreeFor (z3 C) xs (z3 x) (z3 to) = some 0) := by
  unfold mX3_isFreeFor
  by_cases c2 : ∃ k, 0 ≤ k ∧ k < C ∧ X k = to
  · obtain ⟨k, k0, k1, ke⟩ := c2
    rw [find3_y h0 h5 hx hr hi k0 k1 ke, Option.bind_some, if_neg (z3m1 k0 (by omega))]
    by_cases w : k = x
    · rw [w, if_pos rfl]
      refine ⟨fun _ => rfl, fun q => absurd (fun j j0 j1 jn je => jn ?_) q⟩
      rw [← w]
      exact hi j k j0 j1 k0 k1 (by omega)
    · rw [if_neg (fun q => w ((z3eq (by omega) (by omega) (by omega) (by omega)).1 q))]
      exact ⟨fun q => absurd ke (q k k0 k1 w), fun _ => rfl⟩
  · have c2 : ∀ k, 0 ≤ k → k < C → X k ≠ to := fun k k0 k1 e => c2 ⟨k, k0, k1, e⟩
    rw [find3_n h0 h5 hx hr c2 t0 t1, Option.bind_some, if_pos rfl]
    exact ⟨fun _ => rfl, fun q => absurd (fun j j0 j1 _ => c2 j j0 j1) q⟩
theorem free7 (h0 : 0 ≤ C) (h5 : C ≤ 5) (hs2 : s 2 = z3 C) (hx : En 3 C s X) (hr : Rz C (-9) 9 X) (hi : Inj C X) (x0 : -1 ≤ x) (x1 : x < C) (t0 : -2147483648 ≤ to) (t1 : to < 2147483648) : (Fre C X x to → mX7_isFree s (z3 x) (z3 to) = some 1) ∧ (¬ Fre C X x to → mX7_isFree s (z3 x) (z3 to) = some 0) := by
  unfold mX7_isFree
  by_cases c2 : ∃ k, 0 ≤ k ∧ k < C ∧ X k = to
  · obtain ⟨k, k0, k1, ke⟩ := c2
    rw [find7_y h0 h5 hs2 hx hr hi k0 k1 ke, Option.bind_some, if_neg (z3m1 k0 (by omega)), Option.bind_some]
    by_cases w : k = x
    · rw [w, if_pos rfl]
      refine ⟨fun _ => rfl, fun q => absurd (fun j j0 j1 jn je => jn ?_) q⟩
      rw [← w]
      exact hi j k j0 j1 k0 k1 (by omega)
    · rw [if_neg (fun q => w ((z3eq (by omega) (by omega) (by omega) (by omega)).1 q))]
      exact ⟨fun q => absurd ke (q k k0 k1 w), fun _ => rfl⟩
  · have c2 : ∀ k, 0 ≤ k → k < C → X k ≠ to := fun k k0 k1 e => c2 ⟨k, k0, k1, e⟩
    rw [find7_n h0 h5 hs2 hx hr c2 t0 t1, Option.bind_some, if_pos rfl]
    exact ⟨fun _ => rfl, fun q => absurd (fun j j0 j1 _ => c2 j j0 j1) q⟩
theorem sets7 {ed ed1 : Int32} {hi hi1 : Nat → Int32} {j : Int} (v : Int32) (j0 : 0 ≤ j) (j1 : j < 18) (R7 : mX7_remember ed hi s = some (ed1, hi1)) : mX7_sets ed hi s (z3 j) v = some (s j.toNat, ed1, hi1, upd s j.toNat v) := by
  unfold mX7_sets
  rw [R7, Option.bind_some, if_neg (gix j0 (by omega) (by decide)), if_neg (gix j0 (by omega) (by decide)), z3nat (by omega) (by omega)]
theorem iX_y (h : -9 ≤ x ∧ x ≤ 9) (p0 : -2147483648 ≤ x) (p1 : x < 2147483648) : mX7_isX (z3 x) = some 1 := by
  unfold mX7_isX
  rw [z364 p0 p1, show ((-9 : Int64)) = z6 (-9) from rfl, show (9 : Int64) = z6 9 from rfl, ii_y h p0 p1 (by omega) (by omega) (by omega) (by omega)]
  rfl
theorem iX_n (h : ¬ (-9 ≤ x ∧ x ≤ 9)) (p0 : -2147483648 ≤ x) (p1 : x < 2147483648) : mX7_isX (z3 x) = some 0 := by
  unfold mX7_isX
  rw [z364 p0 p1, show ((-9 : Int64)) = z6 (-9) from rfl, show (9 : Int64) = z6 9 from rfl, ii_n h p0 p1 (by omega) (by omega) (by omega) (by omega)]
  rfl
theorem iW_y (h : -9 ≤ x ∧ x ≤ 9) (p0 : -2147483648 ≤ x) (p1 : x < 2147483648) : mX7_isW (z3 x) = some 1 := iX_y h p0 p1
theorem iW_n (h : ¬ (-9 ≤ x ∧ x ≤ 9)) (p0 : -2147483648 ≤ x) (p1 : x < 2147483648) : mX7_isW (z3 x) = some 0 := iX_n h p0 p1
theorem iY_y (h : -20 ≤ x ∧ x ≤ 20) (p0 : -2147483648 ≤ x) (p1 : x < 2147483648) : mX7_isY (z3 x) = some 1 := by
  unfold mX7_isY
  rw [z364 p0 p1, show ((-20 : Int64)) = z6 (-20) from rfl, show (20 : Int64) = z6 20 from rfl, ii_y h p0 p1 (by omega) (by omega) (by omega) (by omega)]
  rfl
theorem iY_n (h : ¬ (-20 ≤ x ∧ x ≤ 20)) (p0 : -2147483648 ≤ x) (p1 : x < 2147483648) : mX7_isY (z3 x) = some 0 := by
  unfold mX7_isY
  rw [z364 p0 p1, show ((-20 : Int64)) = z6 (-20) from rfl, show (20 : Int64) = z6 20 from rfl, ii_n h p0 p1 (by omega) (by omega) (by omega) (by omega)]
  rfl
end PUT
theorem ok_31 : SOK q_31 := by
  intro u z h
  obtain ⟨a, hO, ⟨⟨hc, hd, hm, hw, hx, hy⟩, ⟨hv, ho, hwt⟩⟩, ⟨s0, s1, s2, tx, ty, tw⟩⟩ := h.1
  have O := hO
  obtain ⟨h0, h5, m0, m1, d0, d1, hr, hry, hrw, hi⟩ := O
  have hbw := hO.bw
  obtain ⟨x, x0, x1, hu⟩ := ex3 (u 1)
  obtain ⟨y, y0, y1, hu2⟩ := ex3 (u 2)
  unfold q_31
  rw [hu, hu2]
  have nn : (9 : Int32) = z3 9 := rfl
  by_cases c1 : 0 ≤ x ∧ x < zC a
  · have F3 := free3 h0 h5 hx hr hi (x := x) (by omega) c1.2 y0 y1
    have F7 := free7 h0 h5 s2 tx hr hi (x := x) (by omega) c1.2 y0 y1
    by_cases c2 : -9 ≤ y ∧ y ≤ 9
    · by_cases c3 : Fre (zC a) (zX a) x y
      · obtain ⟨hc1, kc1, kd1, km1, kw1, kx1, ky1, ed1, hi1, R3, R7, hJ1⟩ := rememb h.2.1 hO ⟨hc, hd, hm, hw, hx, hy⟩ ⟨s0, s1, s2, tx, ty, tw⟩
        have hO9 : OkZ (zC a, zM a, zD a, uz (zX a) x y, zY a, zW a) := ⟨h0, h5, m0, m1, d0, d1, hr.u c2.1 c2.2, hry, hrw, hi.u c3⟩
        obtain ⟨a9, ea9⟩ : ∃ a9 : AZ, a9 = (zC a, zM a, zD a, uz (zX a) x y, zY a, zW a) := ⟨_, rfl⟩
        rw [← ea9] at hO9
        have hN3 : N3 a9 (a6_present_nodes_count z.1) (a6_present_nodes_degree z.1) (a6_present_nodes_mode z.1) (a6_present_nodes_ws z.1) (upd (a6_present_nodes_xs z.1) x.toNat (z3 y)) (a6_present_nodes_ys z.1) := by
          rw [ea9]
          exact ⟨hc, hd, hm, hw, hx.u0 c1.1 y, hy⟩
        obtain ⟨s1, es1⟩ : ∃ s1, s1 = upd (a7_s z.2.1) (3 + x).toNat (z3 y) := ⟨_, rfl⟩
        have hN7 : N7 a9 s1 := by
          rw [ea9, es1]
          exact ⟨(upd_n (by omega)).trans s0, (upd_n (by omega)).trans (by assumption), (upd_n (by omega)).trans s2, tx.u (by omega) c1.1 y, ty.o _ (fun k k0 k1 => by omega), tw.o _ (fun k k0 k1 => by omega)⟩
        obtain ⟨den1, num1, or1, pr1, so1, wt1, RK, hCv⟩ := reckon3 hO9 hN3 (a6_present_denominator z.1) (a6_present_numerator z.1) (a6_present_order z.1) (a6_present_product z.1) (a6_present_sorted z.1) (a6_present_weights z.1)
        have S7 := sets7 (j := 3 + x) (z3 y) (by omega) (by omega) R7
        rw [tx x c1.1 c1.2, ← es1] at S7
        have nt := nt_y h0 h5 c1 x0 x1
        rw [← hc] at nt
        have F3 := F3.1 c3
        rw [← hc] at F3
        have m6 : mX6_move (a6_history_count z.1) (a6_history_kept_E_count z.1) (a6_history_kept_E_degree z.1) (a6_history_kept_E_mode z.1) (a6_history_kept_E_ws z.1) (a6_history_kept_E_xs z.1) (a6_history_kept_E_ys z.1) (a6_present_denominator z.1) (a6_present_nodes_count z.1) (a6_present_nodes_degree z.1) (a6_present_nodes_mode z.1) (a6_present_nodes_ws z.1) (a6_present_nodes_xs z.1) (a6_present_nodes_ys z.1) (a6_present_numerator z.1) (a6_present_order z.1) (a6_present_product z.1) (a6_present_sorted z.1) (a6_present_weights z.1) (z3 x) (z3 y) = some (0, z3 (zX a x), hc1, kc1, kd1, km1, kw1, kx1, ky1, den1, upd (a6_present_nodes_xs z.1) x.toNat (z3 y), num1, or1, pr1, so1, wt1) := by
          unfold mX6_move mX6_needFree
          rw [nt, Option.bind_some, if_pos rfl, nn, nw_y c2 y0 y1 (by omega) (by omega), Option.bind_some, if_pos rfl, F3, Option.bind_some, if_neg n10, Option.bind_some, if_pos rfl, xOfz c1.1 (by omega), Option.bind_some, R3, Option.bind_some, putX3 _ c1.1 (by omega), Option.bind_some, RK, hx.z c1.1 c1.2]
          rfl
        have m7 : mX7_move (a7_edits z.2.1) (a7_history z.2.1) (a7_s z.2.1) (a7_thrown z.2.1) (z3 x) (z3 y) = some (z3 (zX a x), ed1, hi1, s1, 0) := by
          unfold mX7_move
          rw [it_y s2 h0 h5 c1 x0 x1, Option.bind_some, iX_y c2 y0 y1, Option.bind_some, if_neg n10, F7.1 c3, Option.bind_some, if_neg n10, g3_111, Option.bind_some, if_neg n10, l3_3, z3a, S7]
          rfl
        have E6 : ∃ σ1 o1, h_move z.1 (z3 x) (z3 y) z.2.2.1 = some (0, σ1, o1) ∧ o1 = vp_updL z.2.2.1 0 (Int32.toInt64 (z3 (zX a x))) ∧ ∀ τ1, JH hc1 kc1 km1 kd1 kw1 kx1 ky1 (a7_edits τ1) (a7_history τ1) → N7 a9 (a7_s τ1) → JB (a6_text_filled z.1) (a7_buffered τ1) (a6_text_bytes z.1) (a7_buffer τ1) → (a6_text_faultKind z.1 = a7_errorKind τ1 ∧ a6_text_faultPosition z.1 = a7_errorPosition τ1) → JO (a6_output_count z.1) (a7_outputLength τ1) (a6_output_signs z.1) (a7_output τ1) → JZ σ1 τ1 := by
          apply Exists.intro
          apply Exists.intro
          refine ⟨?_, ?_, ?_⟩
          · unfold h_move s6_move
            rw [m6]
            rfl
          · rfl
          · exact fun τ1 x1 x2 x3 x4 x5 => ⟨⟨a9, hO9, ⟨hN3, hCv⟩, x2⟩, x1, x3, x4, x5⟩
        have E7 : ∃ v1 τ1, s7_move z.2.1 (z3 x) (z3 y) = some (v1, τ1) ∧ a7_thrown τ1 = 0 ∧ (Int32.toInt64 (z3 (zX a x))) = (Int32.toInt64) v1 ∧ a7_edits τ1 = ed1 ∧ a7_history τ1 = hi1 ∧ a7_s τ1 = s1 ∧ a7_buffered τ1 = a7_buffered z.2.1 ∧ a7_buffer τ1 = a7_buffer z.2.1 ∧ a7_errorKind τ1 = a7_errorKind z.2.1 ∧ a7_errorPosition τ1 = a7_errorPosition z.2.1 ∧ a7_outputLength τ1 = a7_outputLength z.2.1 ∧ a7_output τ1 = a7_output z.2.1 := by
          apply Exists.intro
          apply Exists.intro
          refine ⟨?_, ?_, ?_, ?_⟩
          · unfold s7_move
            rw [m7]
            rfl
          · rfl
          · rfl
          · exact ⟨rfl, rfl, rfl, rfl, rfl, rfl, rfl, rfl, rfl⟩
        obtain ⟨σ1, o1, f6, v6, j6⟩ := E6
        obtain ⟨w1, τ1, f7, t7, v7, i1, i2, i3, i4, i5, i6, i7, i8, i9⟩ := E7
        refine fin1 (Int32.toInt64) f6 f7 t7 (fun _ => by rw [v6, updL_s]; exact v7) (j6 τ1 ?_ ?_ ?_ ?_ ?_)
        · rw [i1, i2]
          exact hJ1
        · rw [i3]
          exact hN7
        · rw [i4, i5]
          exact h.2.2.1
        · rw [i6, i7]
          exact h.2.2.2.1
        · rw [i8, i9]
          exact h.2.2.2.2
      · have nt := nt_y h0 h5 c1 x0 x1
        rw [← hc] at nt
        have F3 := F3.2 c3
        rw [← hc] at F3
        have m6 : mX6_move (a6_history_count z.1) (a6_history_kept_E_count z.1) (a6_history_kept_E_degree z.1) (a6_history_kept_E_mode z.1) (a6_history_kept_E_ws z.1) (a6_history_kept_E_xs z.1) (a6_history_kept_E_ys z.1) (a6_present_denominator z.1) (a6_present_nodes_count z.1) (a6_present_nodes_degree z.1) (a6_present_nodes_mode z.1) (a6_present_nodes_ws z.1) (a6_present_nodes_xs z.1) (a6_present_nodes_ys z.1) (a6_present_numerator z.1) (a6_present_order z.1) (a6_present_product z.1) (a6_present_sorted z.1) (a6_present_weights z.1) (z3 x) (z3 y) = some (3, 0, a6_history_count z.1, a6_history_kept_E_count z.1, a6_history_kept_E_degree z.1, a6_history_kept_E_mode z.1, a6_history_kept_E_ws z.1, a6_history_kept_E_xs z.1, a6_history_kept_E_ys z.1, a6_present_denominator z.1, a6_present_nodes_xs z.1, a6_present_numerator z.1, a6_present_order z.1, a6_present_product z.1, a6_present_sorted z.1, a6_present_weights z.1) := by
          unfold mX6_move mX6_needFree
          rw [nt, Option.bind_some, if_pos rfl, nn, nw_y c2 y0 y1 (by omega) (by omega), Option.bind_some, if_pos rfl, F3]
          rfl
        have m7 : mX7_move (a7_edits z.2.1) (a7_history z.2.1) (a7_s z.2.1) (a7_thrown z.2.1) (z3 x) (z3 y) = some (0, a7_edits z.2.1, a7_history z.2.1, a7_s z.2.1, 3) := by
          unfold mX7_move
          rw [it_y s2 h0 h5 c1 x0 x1, Option.bind_some, iX_y c2 y0 y1, Option.bind_some, if_neg n10, F7.2 c3]
          rfl
        have E6 : ∃ σ1 o1, h_move z.1 (z3 x) (z3 y) z.2.2.1 = some (3, σ1, o1) ∧ (o1 0 = o1 0) ∧ ((3 : Int32) = 0 → o1 = vp_updL z.2.2.1 0 (0)) ∧ ∀ τ, JZ z.1 τ → JZ σ1 τ := by
          apply Exists.intro
          apply Exists.intro
          refine ⟨?_, rfl, ?_, ?_⟩
          · unfold h_move s6_move
            rw [m6]
            rfl
          · exact fun w => absurd w (by decide)
          · exact fun τ h => h
        have E7 : ∃ v1 τ1, s7_move z.2.1 (z3 x) (z3 y) = some (v1, τ1) ∧ a7_thrown τ1 = 3 ∧ ((3 : Int32) = 0 → (0) = (Int32.toInt64) v1) ∧ ∀ σ, JZ σ z.2.1 → JZ σ τ1 := by
          apply Exists.intro
          apply Exists.intro
          refine ⟨?_, ?_, ?_, ?_⟩
          · unfold s7_move
            rw [m7]
            rfl
          · rfl
          · exact fun w => absurd w (by decide)
          · exact fun σ h => h
        obtain ⟨σ1, o1, e6, -, v6, j6⟩ := E6
        obtain ⟨w1, τ1, e7, t7, v7, j7⟩ := E7
        exact fin1 (Int32.toInt64) e6 e7 t7 (fun w => by rw [v6 w, updL_s]; exact v7 w) (j7 _ (j6 _ h))
    · have nt := nt_y h0 h5 c1 x0 x1
      rw [← hc] at nt
      by_cases c3 : Fre (zC a) (zX a) x y
      · have m6 : mX6_move (a6_history_count z.1) (a6_history_kept_E_count z.1) (a6_history_kept_E_degree z.1) (a6_history_kept_E_mode z.1) (a6_history_kept_E_ws z.1) (a6_history_kept_E_xs z.1) (a6_history_kept_E_ys z.1) (a6_present_denominator z.1) (a6_present_nodes_count z.1) (a6_present_nodes_degree z.1) (a6_present_nodes_mode z.1) (a6_present_nodes_ws z.1) (a6_present_nodes_xs z.1) (a6_present_nodes_ys z.1) (a6_present_numerator z.1) (a6_present_order z.1) (a6_present_product z.1) (a6_present_sorted z.1) (a6_present_weights z.1) (z3 x) (z3 y) = some (2, 0, a6_history_count z.1, a6_history_kept_E_count z.1, a6_history_kept_E_degree z.1, a6_history_kept_E_mode z.1, a6_history_kept_E_ws z.1, a6_history_kept_E_xs z.1, a6_history_kept_E_ys z.1, a6_present_denominator z.1, a6_present_nodes_xs z.1, a6_present_numerator z.1, a6_present_order z.1, a6_present_product z.1, a6_present_sorted z.1, a6_present_weights z.1) := by
          unfold mX6_move
          rw [nt, Option.bind_some, if_pos rfl, nn, nw_n c2 y0 y1 (by omega) (by omega)]
          rfl
        have m7 : mX7_move (a7_edits z.2.1) (a7_history z.2.1) (a7_s z.2.1) (a7_thrown z.2.1) (z3 x) (z3 y) = some (0, a7_edits z.2.1, a7_history z.2.1, a7_s z.2.1, 2) := by
          unfold mX7_move
          rw [it_y s2 h0 h5 c1 x0 x1, Option.bind_some, iX_n c2 y0 y1, Option.bind_some, if_neg n10, F7.1 c3]
          rfl
        have E6 : ∃ σ1 o1, h_move z.1 (z3 x) (z3 y) z.2.2.1 = some (2, σ1, o1) ∧ (o1 0 = o1 0) ∧ ((2 : Int32) = 0 → o1 = vp_updL z.2.2.1 0 (0)) ∧ ∀ τ, JZ z.1 τ → JZ σ1 τ := by
          apply Exists.intro
          apply Exists.intro
          refine ⟨?_, rfl, ?_, ?_⟩
          · unfold h_move s6_move
            rw [m6]
            rfl
          · exact fun w => absurd w (by decide)
          · exact fun τ h => h
        have E7 : ∃ v1 τ1, s7_move z.2.1 (z3 x) (z3 y) = some (v1, τ1) ∧ a7_thrown τ1 = 2 ∧ ((2 : Int32) = 0 → (0) = (Int32.toInt64) v1) ∧ ∀ σ, JZ σ z.2.1 → JZ σ τ1 := by
          apply Exists.intro
          apply Exists.intro
          refine ⟨?_, ?_, ?_, ?_⟩
          · unfold s7_move
            rw [m7]
            rfl
          · rfl
          · exact fun w => absurd w (by decide)
          · exact fun σ h => h
        obtain ⟨σ1, o1, e6, -, v6, j6⟩ := E6
        obtain ⟨w1, τ1, e7, t7, v7, j7⟩ := E7
        exact fin1 (Int32.toInt64) e6 e7 t7 (fun w => by rw [v6 w, updL_s]; exact v7 w) (j7 _ (j6 _ h))
      · have m6 : mX6_move (a6_history_count z.1) (a6_history_kept_E_count z.1) (a6_history_kept_E_degree z.1) (a6_history_kept_E_mode z.1) (a6_history_kept_E_ws z.1) (a6_history_kept_E_xs z.1) (a6_history_kept_E_ys z.1) (a6_present_denominator z.1) (a6_present_nodes_count z.1) (a6_present_nodes_degree z.1) (a6_present_nodes_mode z.1) (a6_present_nodes_ws z.1) (a6_present_nodes_xs z.1) (a6_present_nodes_ys z.1) (a6_present_numerator z.1) (a6_present_order z.1) (a6_present_product z.1) (a6_present_sorted z.1) (a6_present_weights z.1) (z3 x) (z3 y) = some (2, 0, a6_history_count z.1, a6_history_kept_E_count z.1, a6_history_kept_E_degree z.1, a6_history_kept_E_mode z.1, a6_history_kept_E_ws z.1, a6_history_kept_E_xs z.1, a6_history_kept_E_ys z.1, a6_present_denominator z.1, a6_present_nodes_xs z.1, a6_present_numerator z.1, a6_present_order z.1, a6_present_product z.1, a6_present_sorted z.1, a6_present_weights z.1) := by
          unfold mX6_move
          rw [nt, Option.bind_some, if_pos rfl, nn, nw_n c2 y0 y1 (by omega) (by omega)]
          rfl
        have m7 : mX7_move (a7_edits z.2.1) (a7_history z.2.1) (a7_s z.2.1) (a7_thrown z.2.1) (z3 x) (z3 y) = some (0, a7_edits z.2.1, a7_history z.2.1, a7_s z.2.1, 2) := by
          unfold mX7_move
          rw [it_y s2 h0 h5 c1 x0 x1, Option.bind_some, iX_n c2 y0 y1, Option.bind_some, if_neg n10, F7.2 c3]
          rfl
        have E6 : ∃ σ1 o1, h_move z.1 (z3 x) (z3 y) z.2.2.1 = some (2, σ1, o1) ∧ (o1 0 = o1 0) ∧ ((2 : Int32) = 0 → o1 = vp_updL z.2.2.1 0 (0)) ∧ ∀ τ, JZ z.1 τ → JZ σ1 τ := by
          apply Exists.intro
          apply Exists.intro
          refine ⟨?_, rfl, ?_, ?_⟩
          · unfold h_move s6_move
            rw [m6]
            rfl
          · exact fun w => absurd w (by decide)
          · exact fun τ h => h
        have E7 : ∃ v1 τ1, s7_move z.2.1 (z3 x) (z3 y) = some (v1, τ1) ∧ a7_thrown τ1 = 2 ∧ ((2 : Int32) = 0 → (0) = (Int32.toInt64) v1) ∧ ∀ σ, JZ σ z.2.1 → JZ σ τ1 := by
          apply Exists.intro
          apply Exists.intro
          refine ⟨?_, ?_, ?_, ?_⟩
          · unfold s7_move
            rw [m7]
            rfl
          · rfl
          · exact fun w => absurd w (by decide)
          · exact fun σ h => h
        obtain ⟨σ1, o1, e6, -, v6, j6⟩ := E6
        obtain ⟨w1, τ1, e7, t7, v7, j7⟩ := E7
        exact fin1 (Int32.toInt64) e6 e7 t7 (fun w => by rw [v6 w, updL_s]; exact v7 w) (j7 _ (j6 _ h))
  · have nt := nt_n h0 h5 c1 x0 x1
    rw [← hc] at nt
    by_cases c2 : -9 ≤ y ∧ y ≤ 9
    · have m6 : mX6_move (a6_history_count z.1) (a6_history_kept_E_count z.1) (a6_history_kept_E_degree z.1) (a6_history_kept_E_mode z.1) (a6_history_kept_E_ws z.1) (a6_history_kept_E_xs z.1) (a6_history_kept_E_ys z.1) (a6_present_denominator z.1) (a6_present_nodes_count z.1) (a6_present_nodes_degree z.1) (a6_present_nodes_mode z.1) (a6_present_nodes_ws z.1) (a6_present_nodes_xs z.1) (a6_present_nodes_ys z.1) (a6_present_numerator z.1) (a6_present_order z.1) (a6_present_product z.1) (a6_present_sorted z.1) (a6_present_weights z.1) (z3 x) (z3 y) = some (1, 0, a6_history_count z.1, a6_history_kept_E_count z.1, a6_history_kept_E_degree z.1, a6_history_kept_E_mode z.1, a6_history_kept_E_ws z.1, a6_history_kept_E_xs z.1, a6_history_kept_E_ys z.1, a6_present_denominator z.1, a6_present_nodes_xs z.1, a6_present_numerator z.1, a6_present_order z.1, a6_present_product z.1, a6_present_sorted z.1, a6_present_weights z.1) := by
        unfold mX6_move
        rw [nt]
        rfl
      have m7 : mX7_move (a7_edits z.2.1) (a7_history z.2.1) (a7_s z.2.1) (a7_thrown z.2.1) (z3 x) (z3 y) = some (0, a7_edits z.2.1, a7_history z.2.1, a7_s z.2.1, 1) := by
        unfold mX7_move
        rw [it_n s2 h0 h5 c1 x0 x1, Option.bind_some, iX_y c2 y0 y1]
        rfl
      have E6 : ∃ σ1 o1, h_move z.1 (z3 x) (z3 y) z.2.2.1 = some (1, σ1, o1) ∧ (o1 0 = o1 0) ∧ ((1 : Int32) = 0 → o1 = vp_updL z.2.2.1 0 (0)) ∧ ∀ τ, JZ z.1 τ → JZ σ1 τ := by
        apply Exists.intro
        apply Exists.intro
        refine ⟨?_, rfl, ?_, ?_⟩
        · unfold h_move s6_move
          rw [m6]
          rfl
        · exact fun w => absurd w (by decide)
        · exact fun τ h => h
      have E7 : ∃ v1 τ1, s7_move z.2.1 (z3 x) (z3 y) = some (v1, τ1) ∧ a7_thrown τ1 = 1 ∧ ((1 : Int32) = 0 → (0) = (Int32.toInt64) v1) ∧ ∀ σ, JZ σ z.2.1 → JZ σ τ1 := by
        apply Exists.intro
        apply Exists.intro
        refine ⟨?_, ?_, ?_, ?_⟩
        · unfold s7_move
          rw [m7]
          rfl
        · rfl
        · exact fun w => absurd w (by decide)
        · exact fun σ h => h
      obtain ⟨σ1, o1, e6, -, v6, j6⟩ := E6
      obtain ⟨w1, τ1, e7, t7, v7, j7⟩ := E7
      exact fin1 (Int32.toInt64) e6 e7 t7 (fun w => by rw [v6 w, updL_s]; exact v7 w) (j7 _ (j6 _ h))
    · have m6 : mX6_move (a6_history_count z.1) (a6_history_kept_E_count z.1) (a6_history_kept_E_degree z.1) (a6_history_kept_E_mode z.1) (a6_history_kept_E_ws z.1) (a6_history_kept_E_xs z.1) (a6_history_kept_E_ys z.1) (a6_present_denominator z.1) (a6_present_nodes_count z.1) (a6_present_nodes_degree z.1) (a6_present_nodes_mode z.1) (a6_present_nodes_ws z.1) (a6_present_nodes_xs z.1) (a6_present_nodes_ys z.1) (a6_present_numerator z.1) (a6_present_order z.1) (a6_present_product z.1) (a6_present_sorted z.1) (a6_present_weights z.1) (z3 x) (z3 y) = some (1, 0, a6_history_count z.1, a6_history_kept_E_count z.1, a6_history_kept_E_degree z.1, a6_history_kept_E_mode z.1, a6_history_kept_E_ws z.1, a6_history_kept_E_xs z.1, a6_history_kept_E_ys z.1, a6_present_denominator z.1, a6_present_nodes_xs z.1, a6_present_numerator z.1, a6_present_order z.1, a6_present_product z.1, a6_present_sorted z.1, a6_present_weights z.1) := by
        unfold mX6_move
        rw [nt]
        rfl
      have m7 : mX7_move (a7_edits z.2.1) (a7_history z.2.1) (a7_s z.2.1) (a7_thrown z.2.1) (z3 x) (z3 y) = some (0, a7_edits z.2.1, a7_history z.2.1, a7_s z.2.1, 1) := by
        unfold mX7_move
        rw [it_n s2 h0 h5 c1 x0 x1, Option.bind_some, iX_n c2 y0 y1]
        rfl
      have E6 : ∃ σ1 o1, h_move z.1 (z3 x) (z3 y) z.2.2.1 = some (1, σ1, o1) ∧ (o1 0 = o1 0) ∧ ((1 : Int32) = 0 → o1 = vp_updL z.2.2.1 0 (0)) ∧ ∀ τ, JZ z.1 τ → JZ σ1 τ := by
        apply Exists.intro
        apply Exists.intro
        refine ⟨?_, rfl, ?_, ?_⟩
        · unfold h_move s6_move
          rw [m6]
          rfl
        · exact fun w => absurd w (by decide)
        · exact fun τ h => h
      have E7 : ∃ v1 τ1, s7_move z.2.1 (z3 x) (z3 y) = some (v1, τ1) ∧ a7_thrown τ1 = 1 ∧ ((1 : Int32) = 0 → (0) = (Int32.toInt64) v1) ∧ ∀ σ, JZ σ z.2.1 → JZ σ τ1 := by
        apply Exists.intro
        apply Exists.intro
        refine ⟨?_, ?_, ?_, ?_⟩
        · unfold s7_move
          rw [m7]
          rfl
        · rfl
        · exact fun w => absurd w (by decide)
        · exact fun σ h => h
      obtain ⟨σ1, o1, e6, -, v6, j6⟩ := E6
      obtain ⟨w1, τ1, e7, t7, v7, j7⟩ := E7
      exact fin1 (Int32.toInt64) e6 e7 t7 (fun w => by rw [v6 w, updL_s]; exact v7 w) (j7 _ (j6 _ h))
