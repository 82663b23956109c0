/-! What would be: valueIf, valueWithout. -/
theorem upd_b (s : Nat → Int32) (i : Nat) (v : Int32) : upd (upd s i v) i (s i) = s := by
  funext j
  by_cases w : j = i
  · rw [w, upd_s]
  · rw [upd_n w, upd_n w]
/-- with a point moved -/
def mvd (a : AZ) (k to : Int) : AZ := (zC a, zM a, zD a, uz (zX a) k to, zY a, zW a)
theorem OkZ.mv {a : AZ} (hO : OkZ a) {k to : Int} (t0 : -9 ≤ to) (t1 : to ≤ 9) (hf : Fre (zC a) (zX a) k to) : OkZ (mvd a k to) := by
  obtain ⟨h0, h5, m0, m1, d0, d1, hr, hry, hrw, hi⟩ := hO
  exact ⟨h0, h5, m0, m1, d0, d1, hr.u t0 t1, hry, hrw, hi.u hf⟩
theorem N7.mv {a : AZ} {s : Nat → Int32} (hO : OkZ a) (h : N7 a s) {k : Int} (k0 : 0 ≤ k) (to : Int) (k1 : k < zC a) : N7 (mvd a k to) (upd s (3 + k).toNat (z3 to)) := by
  obtain ⟨h0, h5, -⟩ := hO
  obtain ⟨s0, s1, s2, tx, ty, tw⟩ := h
  exact ⟨(upd_n (by omega)).trans s0, (upd_n (by omega)).trans s1, (upd_n (by omega)).trans s2, tx.u (by omega) k0 to, ty.o _ (fun k k0 k1 => by have : k < zC a := k1; omega), tw.o _ (fun k k0 k1 => by have : k < zC a := k1; omega)⟩
theorem tryP3 {a : AZ} {c dg md : Int32} {ws xs ys : Nat → Int32} (hO : OkZ a) (h3 : N3 a c dg md ws xs ys) {k to : Int} (k0 : 0 ≤ k) (k1 : k < zC a) (t0 : -9 ≤ to) (t1 : to ≤ 9) (hf : Fre (zC a) (zX a) k to) (q1 : Nat → Int64) (q2 q3 q4 : Int32) (q5 q6 q7 : Nat → Int32) (q8 : Nat → Int64) (q9 : Nat → Int32) (q10 : Nat → Int64) (q11 : Nat → Int32) (q12 : Nat → Int64) :
    ∃ den num r2 r3 r4 r5 r6 r7 r9 r10 r11 r12, mX6_tryPlace c dg md ws xs ys q1 q2 q3 q4 q5 q6 q7 q8 q9 q10 q11 q12 (z3 k) (z3 to) = some (den, r2, r3, r4, r5, r6, r7, num, r9, r10, r11, r12) ∧ Crv (zC (mvd a k to)) (zX (mvd a k to)) (zY (mvd a k to)) (zw (mvd a k to)) den num := by
  have hO9 := hO.mv t0 t1 hf
  have h3c := h3.cp q5 q6 q7 hO
  obtain ⟨e1, e2, e3, hw, hx, hy⟩ := h3c
  have hN : N3 (mvd a k to) c dg md (cpF q5 ws) (upd (cpF q6 xs) k.toNat (z3 to)) (cpF q7 ys) := ⟨e1, e2, e3, hw, hx.u0 k0 to, hy⟩
  obtain ⟨den1, num1, or1, pr1, so1, wt1, RK, hCv⟩ := reckon3 hO9 hN q1 q8 q9 q10 q11 q12
  obtain ⟨h0, h5, -⟩ := hO
  refine ⟨den1, num1, c, dg, md, cpF q5 ws, upd (cpF q6 xs) k.toNat (z3 to), cpF q7 ys, or1, pr1, so1, wt1, ?_, hCv.1⟩
  unfold mX6_tryPlace
  rw [copy3, Option.bind_some, putX3 _ k0 (by omega), Option.bind_some, RK]
  rfl
theorem hasIf_y {a : AZ} {s : Nat → Int32} (hO : OkZ a) (h : N7 a s) {k to x : Int} (k0 : 0 ≤ k) (k1 : k < zC a) (t0 : -9 ≤ to) (t1 : to ≤ 9) (hf : Fre (zC a) (zX a) k to) (x0 : -12 ≤ x) (x1 : x ≤ 12) (lo up : Int64) (o : Nat → Int32) (w : Nat → Int64) :
    (kiz (zC (mvd a k to)) (zX (mvd a k to)) (zY (mvd a k to)) (zw (mvd a k to)) x ≤ 1 → ∃ o1 w1, mX7_hasValueIf lo o s up w (z3 k) (z3 to) (z3 x) = some (1, z6 (vB (zC (mvd a k to)) (zX (mvd a k to)) (zY (mvd a k to)) (zw (mvd a k to)) x), o1, s, z6 (vT (zC (mvd a k to)) (zX (mvd a k to)) (zY (mvd a k to)) (zw (mvd a k to)) x), w1)) ∧
    (¬ kiz (zC (mvd a k to)) (zX (mvd a k to)) (zY (mvd a k to)) (zw (mvd a k to)) x ≤ 1 → ∃ o1 w1, mX7_hasValueIf lo o s up w (z3 k) (z3 to) (z3 x) = some (0, lo, o1, s, up, w1)) := by
  have hO9 := hO.mv t0 t1 hf
  have h7 := h.mv hO k0 to k1
  obtain ⟨h0, h5, -⟩ := hO
  have g := gix (x := 3 + k) (n := 18) (by omega) (by omega) (by decide)
  have e3 : (3 : Int32) + z3 k = z3 (3 + k) := by rw [l3_3, z3a]
  unfold mX7_hasValueIf
  rw [e3, if_neg g, if_neg g, z3nat (by omega) (by omega)]
  rw [z3nat (by omega) (by omega)] at g
  constructor
  · intro c
    obtain ⟨o1, w1, e1⟩ := hasV_y hO9 h7 x0 x1 c lo up o w
    refine ⟨o1, w1, ?_⟩
    rw [e1, Option.bind_some, if_neg g, upd_b]
    rfl
  · intro c
    obtain ⟨o1, w1, e1⟩ := hasV_n hO9 h7 x0 x1 c lo up o w
    refine ⟨o1, w1, ?_⟩
    rw [e1, Option.bind_some, if_neg g, upd_b]
    rfl
theorem ok_28 : SOK q_28 := by
  intro u z h
  obtain ⟨a, hO, ⟨⟨hc, hd, hm, hw, hx, hy⟩, ⟨hv, ho, hwt⟩⟩, ⟨s0, s1, s2, tx, ty, tw⟩⟩ := h.1
  have O := hO
  obtain ⟨h0, h5, m0, m1, d0, d1, hr, hry, hrw, hi⟩ := O
  have hbw := hO.bw
  obtain ⟨k, k0, k1, hu⟩ := ex3 (u 1)
  obtain ⟨t, t0, t1, hu2⟩ := ex3 (u 2)
  obtain ⟨x, x0, x1, hu3⟩ := ex3 (u 3)
  obtain ⟨y, y0, y1, hu4⟩ := ex3 (u 4)
  unfold q_28
  rw [hu, hu2, hu3, hu4]
  have n9 : (9 : Int32) = z3 9 := rfl
  have n12 : (12 : Int32) = z3 12 := rfl
  have hN3 : N3 a (a6_present_nodes_count z.1) (a6_present_nodes_degree z.1) (a6_present_nodes_mode z.1) (a6_present_nodes_ws z.1) (a6_present_nodes_xs z.1) (a6_present_nodes_ys z.1) := ⟨hc, hd, hm, hw, hx, hy⟩
  have hN7 : N7 a (a7_s z.2.1) := ⟨s0, s1, s2, tx, ty, tw⟩
  by_cases c1 : 0 ≤ k ∧ k < zC a
  · have nt := nt_y h0 h5 c1 k0 k1
    rw [← hc] at nt
    have F3 := free3 h0 h5 hx hr hi (x := k) (by omega) c1.2 t0 t1
    rw [← hc] at F3
    have F7 := free7 h0 h5 s2 tx hr hi (x := k) (by omega) c1.2 t0 t1
    have I1 := it_y s2 h0 h5 c1 k0 k1
    have fr : mX7_isFree (a7_s z.2.1) (z3 k) (z3 t) = some 1 ∨ mX7_isFree (a7_s z.2.1) (z3 k) (z3 t) = some 0 := by
      by_cases q : Fre (zC a) (zX a) k t
      · exact Or.inl (F7.1 q)
      · exact Or.inr (F7.2 q)
    by_cases c2 : -9 ≤ t ∧ t ≤ 9
    · by_cases c3 : -12 ≤ x ∧ x ≤ 12
      · by_cases c4 : 0 ≤ y ∧ y ≤ 1
        · by_cases c5 : Fre (zC a) (zX a) k t
          · obtain ⟨den, num, r2, r3', r4, r5, r6, r7, r9, r10, r11, r12, TP, hCr⟩ := tryP3 hO hN3 c1.1 c1.2 c2.1 c2.2 c5 (a6_trial_denominator z.1) (a6_trial_nodes_count z.1) (a6_trial_nodes_degree z.1) (a6_trial_nodes_mode z.1) (a6_trial_nodes_ws z.1) (a6_trial_nodes_xs z.1) (a6_trial_nodes_ys z.1) (a6_trial_numerator z.1) (a6_trial_order z.1) (a6_trial_product z.1) (a6_trial_sorted z.1) (a6_trial_weights z.1)
            have H7 := hasIf_y hO hN7 c1.1 c1.2 c2.1 c2.2 c5 c3.1 c3.2 (a7_low z.2.1) (a7_up z.2.1) (a7_order z.2.1) (a7_weights z.2.1)
            have hO9 := hO.mv c2.1 c2.2 c5
            have hb9 := hO9.bw
            obtain ⟨i0, i5, -, -, -, -, ir, iry, -, -⟩ := hO9
            by_cases c6 : kiz (zC (mvd a k t)) (zX (mvd a k t)) (zY (mvd a k t)) (zw (mvd a k t)) x ≤ 1
            · obtain ⟨o1, w1, e1⟩ := H7.1 c6
              have m6 : ∃ r3, mX6_valueIf (a6_answer_bottom z.1) (a6_answer_top z.1) (a6_present_nodes_count z.1) (a6_present_nodes_degree z.1) (a6_present_nodes_mode z.1) (a6_present_nodes_ws z.1) (a6_present_nodes_xs z.1) (a6_present_nodes_ys z.1) (a6_trial_denominator z.1) (a6_trial_nodes_count z.1) (a6_trial_nodes_degree z.1) (a6_trial_nodes_mode z.1) (a6_trial_nodes_ws z.1) (a6_trial_nodes_xs z.1) (a6_trial_nodes_ys z.1) (a6_trial_numerator z.1) (a6_trial_order z.1) (a6_trial_product z.1) (a6_trial_sorted z.1) (a6_trial_weights z.1) (z3 k) (z3 t) (z3 x) (z3 y) = some (0, (if y = 0 then z6 (vT (zC (mvd a k t)) (zX (mvd a k t)) (zY (mvd a k t)) (zw (mvd a k t)) x) else z6 (vB (zC (mvd a k t)) (zX (mvd a k t)) (zY (mvd a k t)) (zw (mvd a k t)) x)), r3) := by
                unfold mX6_valueIf mX6_needFree
                rw [nt, Option.bind_some, if_pos rfl, n9, nw_y c2 t0 t1 (by omega) (by omega), Option.bind_some, if_pos rfl, n12, nw_y c3 x0 x1 (by omega) (by omega), Option.bind_some, if_pos rfl, np_y c4 y0 y1, Option.bind_some, if_pos rfl, F3.1 c5, Option.bind_some, if_neg n10, Option.bind_some, if_pos rfl, TP, Option.bind_some, nv_y i0 i5 ir iry hb9 hCr c3.1 c3.2 c6, Option.bind_some, if_pos rfl, part3 _ _ c4]
                exact ⟨_, rfl⟩
              obtain ⟨r3, m6⟩ := m6
              have m7 : mX7_valueIf (a7_low z.2.1) (a7_order z.2.1) (a7_s z.2.1) (a7_thrown z.2.1) (a7_up z.2.1) (a7_weights z.2.1) (z3 k) (z3 t) (z3 x) (z3 y) = some ((if y = 0 then z6 (vT (zC (mvd a k t)) (zX (mvd a k t)) (zY (mvd a k t)) (zw (mvd a k t)) x) else z6 (vB (zC (mvd a k t)) (zX (mvd a k t)) (zY (mvd a k t)) (zw (mvd a k t)) x)), z6 (vB (zC (mvd a k t)) (zX (mvd a k t)) (zY (mvd a k t)) (zw (mvd a k t)) x), o1, a7_s z.2.1, 0, z6 (vT (zC (mvd a k t)) (zX (mvd a k t)) (zY (mvd a k t)) (zw (mvd a k t)) x), w1) := by
                unfold mX7_valueIf
                rw [I1, Option.bind_some, iX_y c2 t0 t1, Option.bind_some, if_neg n10, iw_y c3 x0 x1, Option.bind_some, if_neg n10, ip_y c4 y0 y1, Option.bind_some, if_neg n10, if_neg n10, F7.1 c5, Option.bind_some, if_neg n10, g3_111, Option.bind_some, if_neg n10, e1, Option.bind_some, if_neg n10, told7 _ _ c4]
                rfl
              have E6 : ∃ σ1 o1, h_valueIf z.1 (z3 k) (z3 t) (z3 x) (z3 y) z.2.2.1 = some (0, σ1, o1) ∧ (o1 0 = o1 0) ∧ ((0 : Int32) = 0 → o1 = vp_updL z.2.2.1 0 ((if y = 0 then z6 (vT (zC (mvd a k t)) (zX (mvd a k t)) (zY (mvd a k t)) (zw (mvd a k t)) x) else z6 (vB (zC (mvd a k t)) (zX (mvd a k t)) (zY (mvd a k t)) (zw (mvd a k t)) x)))) ∧ ∀ τ, JZ z.1 τ → JZ σ1 τ := by
                apply Exists.intro
                apply Exists.intro
                refine ⟨?_, rfl, ?_, ?_⟩
                · unfold h_valueIf s6_valueIf
                  rw [m6]
                  rfl
                · exact fun _ => rfl
                · exact fun τ h => h
              have E7 : ∃ v1 τ1, s7_valueIf z.2.1 (z3 k) (z3 t) (z3 x) (z3 y) = some (v1, τ1) ∧ a7_thrown τ1 = 0 ∧ ((0 : Int32) = 0 → ((if y = 0 then z6 (vT (zC (mvd a k t)) (zX (mvd a k t)) (zY (mvd a k t)) (zw (mvd a k t)) x) else z6 (vB (zC (mvd a k t)) (zX (mvd a k t)) (zY (mvd a k t)) (zw (mvd a k t)) x))) = (fun x => x) v1) ∧ ∀ σ, JZ σ z.2.1 → JZ σ τ1 := by
                apply Exists.intro
                apply Exists.intro
                refine ⟨?_, ?_, ?_, ?_⟩
                · unfold s7_valueIf
                  rw [m7]
                  rfl
                · rfl
                · exact fun _ => rfl
                · exact fun σ h => h
              obtain ⟨σ1, o1, e6, -, v6, j6⟩ := E6
              obtain ⟨w1, τ1, e7, t7, v7, j7⟩ := E7
              exact fin1 (fun x => x) e6 e7 t7 (fun w => by rw [v6 w, updL_s]; exact v7 w) (j7 _ (j6 _ h))
            · obtain ⟨o1, w1, e1⟩ := H7.2 c6
              have m6 : ∃ r3, mX6_valueIf (a6_answer_bottom z.1) (a6_answer_top z.1) (a6_present_nodes_count z.1) (a6_present_nodes_degree z.1) (a6_present_nodes_mode z.1) (a6_present_nodes_ws z.1) (a6_present_nodes_xs z.1) (a6_present_nodes_ys z.1) (a6_trial_denominator z.1) (a6_trial_nodes_count z.1) (a6_trial_nodes_degree z.1) (a6_trial_nodes_mode z.1) (a6_trial_nodes_ws z.1) (a6_trial_nodes_xs z.1) (a6_trial_nodes_ys z.1) (a6_trial_numerator z.1) (a6_trial_order z.1) (a6_trial_product z.1) (a6_trial_sorted z.1) (a6_trial_weights z.1) (z3 k) (z3 t) (z3 x) (z3 y) = some (4, 0, r3) := by
                unfold mX6_valueIf mX6_needFree
                rw [nt, Option.bind_some, if_pos rfl, n9, nw_y c2 t0 t1 (by omega) (by omega), Option.bind_some, if_pos rfl, n12, nw_y c3 x0 x1 (by omega) (by omega), Option.bind_some, if_pos rfl, np_y c4 y0 y1, Option.bind_some, if_pos rfl, F3.1 c5, Option.bind_some, if_neg n10, Option.bind_some, if_pos rfl, TP, Option.bind_some, nv_n i0 i5 ir iry hb9 hCr c3.1 c3.2 c6]
                exact ⟨_, rfl⟩
              obtain ⟨r3, m6⟩ := m6
              have m7 : mX7_valueIf (a7_low z.2.1) (a7_order z.2.1) (a7_s z.2.1) (a7_thrown z.2.1) (a7_up z.2.1) (a7_weights z.2.1) (z3 k) (z3 t) (z3 x) (z3 y) = some (0, a7_low z.2.1, o1, a7_s z.2.1, 4, a7_up z.2.1, w1) := by
                unfold mX7_valueIf
                rw [I1, Option.bind_some, iX_y c2 t0 t1, Option.bind_some, if_neg n10, iw_y c3 x0 x1, Option.bind_some, if_neg n10, ip_y c4 y0 y1, Option.bind_some, if_neg n10, if_neg n10, F7.1 c5, Option.bind_some, if_neg n10, g3_111, Option.bind_some, if_neg n10, e1]
                rfl
              have E6 : ∃ σ1 o1, h_valueIf z.1 (z3 k) (z3 t) (z3 x) (z3 y) z.2.2.1 = some (4, σ1, o1) ∧ (o1 0 = o1 0) ∧ ((4 : Int32) = 0 → o1 = vp_updL z.2.2.1 0 (0)) ∧ ∀ τ, JZ z.1 τ → JZ σ1 τ := by
                apply Exists.intro
                apply Exists.intro
                refine ⟨?_, rfl, ?_, ?_⟩
                · unfold h_valueIf s6_valueIf
                  rw [m6]
                  rfl
                · exact fun w => absurd w (by decide)
                · exact fun τ h => h
              have E7 : ∃ v1 τ1, s7_valueIf z.2.1 (z3 k) (z3 t) (z3 x) (z3 y) = some (v1, τ1) ∧ a7_thrown τ1 = 4 ∧ ((4 : Int32) = 0 → (0) = (fun x => x) v1) ∧ ∀ σ, JZ σ z.2.1 → JZ σ τ1 := by
                apply Exists.intro
                apply Exists.intro
                refine ⟨?_, ?_, ?_, ?_⟩
                · unfold s7_valueIf
                  rw [m7]
                  rfl
                · rfl
                · exact fun w => absurd w (by decide)
                · exact fun σ h => h
              obtain ⟨σ1, o1, e6, -, v6, j6⟩ := E6
              obtain ⟨w1, τ1, e7, t7, v7, j7⟩ := E7
              exact fin1 (fun x => x) e6 e7 t7 (fun w => by rw [v6 w, updL_s]; exact v7 w) (j7 _ (j6 _ h))
          · have m6 : ∃ r3, mX6_valueIf (a6_answer_bottom z.1) (a6_answer_top z.1) (a6_present_nodes_count z.1) (a6_present_nodes_degree z.1) (a6_present_nodes_mode z.1) (a6_present_nodes_ws z.1) (a6_present_nodes_xs z.1) (a6_present_nodes_ys z.1) (a6_trial_denominator z.1) (a6_trial_nodes_count z.1) (a6_trial_nodes_degree z.1) (a6_trial_nodes_mode z.1) (a6_trial_nodes_ws z.1) (a6_trial_nodes_xs z.1) (a6_trial_nodes_ys z.1) (a6_trial_numerator z.1) (a6_trial_order z.1) (a6_trial_product z.1) (a6_trial_sorted z.1) (a6_trial_weights z.1) (z3 k) (z3 t) (z3 x) (z3 y) = some (3, 0, r3) := by
              unfold mX6_valueIf mX6_needFree
              rw [nt, Option.bind_some, if_pos rfl, n9, nw_y c2 t0 t1 (by omega) (by omega), Option.bind_some, if_pos rfl, n12, nw_y c3 x0 x1 (by omega) (by omega), Option.bind_some, if_pos rfl, np_y c4 y0 y1, Option.bind_some, if_pos rfl, F3.2 c5]
              exact ⟨_, rfl⟩
            obtain ⟨r3, m6⟩ := m6
            have m7 : mX7_valueIf (a7_low z.2.1) (a7_order z.2.1) (a7_s z.2.1) (a7_thrown z.2.1) (a7_up z.2.1) (a7_weights z.2.1) (z3 k) (z3 t) (z3 x) (z3 y) = some (0, a7_low z.2.1, a7_order z.2.1, a7_s z.2.1, 3, a7_up z.2.1, a7_weights z.2.1) := by
              unfold mX7_valueIf
              rw [I1, Option.bind_some, iX_y c2 t0 t1, Option.bind_some, if_neg n10, iw_y c3 x0 x1, Option.bind_some, if_neg n10, ip_y c4 y0 y1, Option.bind_some, if_neg n10, if_neg n10, F7.2 c5]
              rfl
            have E6 : ∃ σ1 o1, h_valueIf z.1 (z3 k) (z3 t) (z3 x) (z3 y) z.2.2.1 = some (3, σ1, o1) ∧ (o1 0 = o1 0) ∧ ((3 : Int32) = 0 → o1 = vp_updL z.2.2.1 0 (0)) ∧ ∀ τ, JZ z.1 τ → JZ σ1 τ := by
              apply Exists.intro
              apply Exists.intro
              refine ⟨?_, rfl, ?_, ?_⟩
              · unfold h_valueIf s6_valueIf
                rw [m6]
                rfl
              · exact fun w => absurd w (by decide)
              · exact fun τ h => h
            have E7 : ∃ v1 τ1, s7_valueIf z.2.1 (z3 k) (z3 t) (z3 x) (z3 y) = some (v1, τ1) ∧ a7_thrown τ1 = 3 ∧ ((3 : Int32) = 0 → (0) = (fun x => x) v1) ∧ ∀ σ, JZ σ z.2.1 → JZ σ τ1 := by
              apply Exists.intro
              apply Exists.intro
              refine ⟨?_, ?_, ?_, ?_⟩
              · unfold s7_valueIf
                rw [m7]
                rfl
              · rfl
              · exact fun w => absurd w (by decide)
              · exact fun σ h => h
            obtain ⟨σ1, o1, e6, -, v6, j6⟩ := E6
            obtain ⟨w1, τ1, e7, t7, v7, j7⟩ := E7
            exact fin1 (fun x => x) e6 e7 t7 (fun w => by rw [v6 w, updL_s]; exact v7 w) (j7 _ (j6 _ h))
        · have m6 : ∃ r3, mX6_valueIf (a6_answer_bottom z.1) (a6_answer_top z.1) (a6_present_nodes_count z.1) (a6_present_nodes_degree z.1) (a6_present_nodes_mode z.1) (a6_present_nodes_ws z.1) (a6_present_nodes_xs z.1) (a6_present_nodes_ys z.1) (a6_trial_denominator z.1) (a6_trial_nodes_count z.1) (a6_trial_nodes_degree z.1) (a6_trial_nodes_mode z.1) (a6_trial_nodes_ws z.1) (a6_trial_nodes_xs z.1) (a6_trial_nodes_ys z.1) (a6_trial_numerator z.1) (a6_trial_order z.1) (a6_trial_product z.1) (a6_trial_sorted z.1) (a6_trial_weights z.1) (z3 k) (z3 t) (z3 x) (z3 y) = some (2, 0, r3) := by
            unfold mX6_valueIf
            rw [nt, Option.bind_some, if_pos rfl, n9, nw_y c2 t0 t1 (by omega) (by omega), Option.bind_some, if_pos rfl, n12, nw_y c3 x0 x1 (by omega) (by omega), Option.bind_some, if_pos rfl, np_n c4 y0 y1]
            exact ⟨_, rfl⟩
          obtain ⟨r3, m6⟩ := m6
          have m7 : mX7_valueIf (a7_low z.2.1) (a7_order z.2.1) (a7_s z.2.1) (a7_thrown z.2.1) (a7_up z.2.1) (a7_weights z.2.1) (z3 k) (z3 t) (z3 x) (z3 y) = some (0, a7_low z.2.1, a7_order z.2.1, a7_s z.2.1, 2, a7_up z.2.1, a7_weights z.2.1) := by
            unfold mX7_valueIf
            rw [I1, Option.bind_some, iX_y c2 t0 t1, Option.bind_some, if_neg n10, iw_y c3 x0 x1, Option.bind_some, if_neg n10, ip_n c4 y0 y1, Option.bind_some, if_pos rfl, if_neg n10]
            rcases fr with fr | fr <;> (rw [fr]; rfl)
          have E6 : ∃ σ1 o1, h_valueIf z.1 (z3 k) (z3 t) (z3 x) (z3 y) z.2.2.1 = some (2, σ1, o1) ∧ (o1 0 = o1 0) ∧ ((2 : Int32) = 0 → o1 = vp_updL z.2.2.1 0 (0)) ∧ ∀ τ, JZ z.1 τ → JZ σ1 τ := by
            apply Exists.intro
            apply Exists.intro
            refine ⟨?_, rfl, ?_, ?_⟩
            · unfold h_valueIf s6_valueIf
              rw [m6]
              rfl
            · exact fun w => absurd w (by decide)
            · exact fun τ h => h
          have E7 : ∃ v1 τ1, s7_valueIf z.2.1 (z3 k) (z3 t) (z3 x) (z3 y) = some (v1, τ1) ∧ a7_thrown τ1 = 2 ∧ ((2 : Int32) = 0 → (0) = (fun x => x) v1) ∧ ∀ σ, JZ σ z.2.1 → JZ σ τ1 := by
            apply Exists.intro
            apply Exists.intro
            refine ⟨?_, ?_, ?_, ?_⟩
            · unfold s7_valueIf
              rw [m7]
              rfl
            · rfl
            · exact fun w => absurd w (by decide)
            · exact fun σ h => h
          obtain ⟨σ1, o1, e6, -, v6, j6⟩ := E6
          obtain ⟨w1, τ1, e7, t7, v7, j7⟩ := E7
          exact fin1 (fun x => x) e6 e7 t7 (fun w => by rw [v6 w, updL_s]; exact v7 w) (j7 _ (j6 _ h))
      · have m6 : ∃ r3, mX6_valueIf (a6_answer_bottom z.1) (a6_answer_top z.1) (a6_present_nodes_count z.1) (a6_present_nodes_degree z.1) (a6_present_nodes_mode z.1) (a6_present_nodes_ws z.1) (a6_present_nodes_xs z.1) (a6_present_nodes_ys z.1) (a6_trial_denominator z.1) (a6_trial_nodes_count z.1) (a6_trial_nodes_degree z.1) (a6_trial_nodes_mode z.1) (a6_trial_nodes_ws z.1) (a6_trial_nodes_xs z.1) (a6_trial_nodes_ys z.1) (a6_trial_numerator z.1) (a6_trial_order z.1) (a6_trial_product z.1) (a6_trial_sorted z.1) (a6_trial_weights z.1) (z3 k) (z3 t) (z3 x) (z3 y) = some (2, 0, r3) := by
          unfold mX6_valueIf
          rw [nt, Option.bind_some, if_pos rfl, n9, nw_y c2 t0 t1 (by omega) (by omega), Option.bind_some, if_pos rfl, n12, nw_n c3 x0 x1 (by omega) (by omega)]
          exact ⟨_, rfl⟩
        obtain ⟨r3, m6⟩ := m6
        have m7 : mX7_valueIf (a7_low z.2.1) (a7_order z.2.1) (a7_s z.2.1) (a7_thrown z.2.1) (a7_up z.2.1) (a7_weights z.2.1) (z3 k) (z3 t) (z3 x) (z3 y) = some (0, a7_low z.2.1, a7_order z.2.1, a7_s z.2.1, 2, a7_up z.2.1, a7_weights z.2.1) := by
          unfold mX7_valueIf
          rw [I1, Option.bind_some, iX_y c2 t0 t1, Option.bind_some, if_neg n10, iw_n c3 x0 x1, Option.bind_some, if_pos rfl, if_neg n10]
          rcases fr with fr | fr <;> (rw [fr]; rfl)
        have E6 : ∃ σ1 o1, h_valueIf z.1 (z3 k) (z3 t) (z3 x) (z3 y) z.2.2.1 = some (2, σ1, o1) ∧ (o1 0 = o1 0) ∧ ((2 : Int32) = 0 → o1 = vp_updL z.2.2.1 0 (0)) ∧ ∀ τ, JZ z.1 τ → JZ σ1 τ := by
          apply Exists.intro
          apply Exists.intro
          refine ⟨?_, rfl, ?_, ?_⟩
          · unfold h_valueIf s6_valueIf
            rw [m6]
            rfl
          · exact fun w => absurd w (by decide)
          · exact fun τ h => h
        have E7 : ∃ v1 τ1, s7_valueIf z.2.1 (z3 k) (z3 t) (z3 x) (z3 y) = some (v1, τ1) ∧ a7_thrown τ1 = 2 ∧ ((2 : Int32) = 0 → (0) = (fun x => x) v1) ∧ ∀ σ, JZ σ z.2.1 → JZ σ τ1 := by
          apply Exists.intro
          apply Exists.intro
          refine ⟨?_, ?_, ?_, ?_⟩
          · unfold s7_valueIf
            rw [m7]
            rfl
          · rfl
          · exact fun w => absurd w (by decide)
          · exact fun σ h => h
        obtain ⟨σ1, o1, e6, -, v6, j6⟩ := E6
        obtain ⟨w1, τ1, e7, t7, v7, j7⟩ := E7
        exact fin1 (fun x => x) e6 e7 t7 (fun w => by rw [v6 w, updL_s]; exact v7 w) (j7 _ (j6 _ h))
    · have m6 : ∃ r3, mX6_valueIf (a6_answer_bottom z.1) (a6_answer_top z.1) (a6_present_nodes_count z.1) (a6_present_nodes_degree z.1) (a6_present_nodes_mode z.1) (a6_present_nodes_ws z.1) (a6_present_nodes_xs z.1) (a6_present_nodes_ys z.1) (a6_trial_denominator z.1) (a6_trial_nodes_count z.1) (a6_trial_nodes_degree z.1) (a6_trial_nodes_mode z.1) (a6_trial_nodes_ws z.1) (a6_trial_nodes_xs z.1) (a6_trial_nodes_ys z.1) (a6_trial_numerator z.1) (a6_trial_order z.1) (a6_trial_product z.1) (a6_trial_sorted z.1) (a6_trial_weights z.1) (z3 k) (z3 t) (z3 x) (z3 y) = some (2, 0, r3) := by
        unfold mX6_valueIf
        rw [nt, Option.bind_some, if_pos rfl, n9, nw_n c2 t0 t1 (by omega) (by omega)]
        exact ⟨_, rfl⟩
      obtain ⟨r3, m6⟩ := m6
      have m7 : mX7_valueIf (a7_low z.2.1) (a7_order z.2.1) (a7_s z.2.1) (a7_thrown z.2.1) (a7_up z.2.1) (a7_weights z.2.1) (z3 k) (z3 t) (z3 x) (z3 y) = some (0, a7_low z.2.1, a7_order z.2.1, a7_s z.2.1, 2, a7_up z.2.1, a7_weights z.2.1) := by
        unfold mX7_valueIf
        rw [I1, Option.bind_some, iX_n c2 t0 t1, Option.bind_some, if_pos rfl, if_neg n10]
        rcases fr with fr | fr <;> (rw [fr]; rfl)
      have E6 : ∃ σ1 o1, h_valueIf z.1 (z3 k) (z3 t) (z3 x) (z3 y) z.2.2.1 = some (2, σ1, o1) ∧ (o1 0 = o1 0) ∧ ((2 : Int32) = 0 → o1 = vp_updL z.2.2.1 0 (0)) ∧ ∀ τ, JZ z.1 τ → JZ σ1 τ := by
        apply Exists.intro
        apply Exists.intro
        refine ⟨?_, rfl, ?_, ?_⟩
        · unfold h_valueIf s6_valueIf
          rw [m6]
          rfl
        · exact fun w => absurd w (by decide)
        · exact fun τ h => h
      have E7 : ∃ v1 τ1, s7_valueIf z.2.1 (z3 k) (z3 t) (z3 x) (z3 y) = some (v1, τ1) ∧ a7_thrown τ1 = 2 ∧ ((2 : Int32) = 0 → (0) = (fun x => x) v1) ∧ ∀ σ, JZ σ z.2.1 → JZ σ τ1 := by
        apply Exists.intro
        apply Exists.intro
        refine ⟨?_, ?_, ?_, ?_⟩
        · unfold s7_valueIf
          rw [m7]
          rfl
        · rfl
        · exact fun w => absurd w (by decide)
        · exact fun σ h => h
      obtain ⟨σ1, o1, e6, -, v6, j6⟩ := E6
      obtain ⟨w1, τ1, e7, t7, v7, j7⟩ := E7
      exact fin1 (fun x => x) e6 e7 t7 (fun w => by rw [v6 w, updL_s]; exact v7 w) (j7 _ (j6 _ h))
  · have nt := nt_n h0 h5 c1 k0 k1
    rw [← hc] at nt
    have I1 := it_n s2 h0 h5 c1 k0 k1
    have X : mX7_isX (z3 t) = some 1 ∨ mX7_isX (z3 t) = some 0 := by
      by_cases q : -9 ≤ t ∧ t ≤ 9
      · exact Or.inl (iX_y q t0 t1)
      · exact Or.inr (iX_n q t0 t1)
    have Wh : mX7_isWhole (z3 x) = some 1 ∨ mX7_isWhole (z3 x) = some 0 := by
      by_cases q : -12 ≤ x ∧ x ≤ 12
      · exact Or.inl (iw_y q x0 x1)
      · exact Or.inr (iw_n q x0 x1)
    have Pa : mX7_isPart (z3 y) = some 1 ∨ mX7_isPart (z3 y) = some 0 := by
      by_cases q : 0 ≤ y ∧ y ≤ 1
      · exact Or.inl (ip_y q y0 y1)
      · exact Or.inr (ip_n q y0 y1)
    have m6 : ∃ r3, mX6_valueIf (a6_answer_bottom z.1) (a6_answer_top z.1) (a6_present_nodes_count z.1) (a6_present_nodes_degree z.1) (a6_present_nodes_mode z.1) (a6_present_nodes_ws z.1) (a6_present_nodes_xs z.1) (a6_present_nodes_ys z.1) (a6_trial_denominator z.1) (a6_trial_nodes_count z.1) (a6_trial_nodes_degree z.1) (a6_trial_nodes_mode z.1) (a6_trial_nodes_ws z.1) (a6_trial_nodes_xs z.1) (a6_trial_nodes_ys z.1) (a6_trial_numerator z.1) (a6_trial_order z.1) (a6_trial_product z.1) (a6_trial_sorted z.1) (a6_trial_weights z.1) (z3 k) (z3 t) (z3 x) (z3 y) = some (1, 0, r3) := by
      unfold mX6_valueIf
      rw [nt]
      exact ⟨_, rfl⟩
    obtain ⟨r3, m6⟩ := m6
    have m7 : mX7_valueIf (a7_low z.2.1) (a7_order z.2.1) (a7_s z.2.1) (a7_thrown z.2.1) (a7_up z.2.1) (a7_weights z.2.1) (z3 k) (z3 t) (z3 x) (z3 y) = some (0, a7_low z.2.1, a7_order z.2.1, a7_s z.2.1, 1, a7_up z.2.1, a7_weights z.2.1) := by
      unfold mX7_valueIf
      rcases X with e | e <;> rcases Wh with e2 | e2 <;> rcases Pa with e4 | e4 <;> first | (rw [I1, Option.bind_some, e, Option.bind_some, if_neg n10, e2, Option.bind_some, if_neg n10, e4]; rfl) | (rw [I1, Option.bind_some, e, Option.bind_some, if_neg n10, e2]; rfl) | (rw [I1, Option.bind_some, e]; rfl)
    have E6 : ∃ σ1 o1, h_valueIf z.1 (z3 k) (z3 t) (z3 x) (z3 y) z.2.2.1 = some (1, σ1, o1) ∧ (o1 0 = o1 0) ∧ ((1 : Int32) = 0 → o1 = vp_updL z.2.2.1 0 (0)) ∧ ∀ τ, JZ z.1 τ → JZ σ1 τ := by
      apply Exists.intro
      apply Exists.intro
      refine ⟨?_, rfl, ?_, ?_⟩
      · unfold h_valueIf s6_valueIf
        rw [m6]
        rfl
      · exact fun w => absurd w (by decide)
      · exact fun τ h => h
    have E7 : ∃ v1 τ1, s7_valueIf z.2.1 (z3 k) (z3 t) (z3 x) (z3 y) = some (v1, τ1) ∧ a7_thrown τ1 = 1 ∧ ((1 : Int32) = 0 → (0) = (fun x => x) v1) ∧ ∀ σ, JZ σ z.2.1 → JZ σ τ1 := by
      apply Exists.intro
      apply Exists.intro
      refine ⟨?_, ?_, ?_, ?_⟩
      · unfold s7_valueIf
        rw [m7]
        rfl
      · rfl
      · exact fun w => absurd w (by decide)
      · exact fun σ h => h
    obtain ⟨σ1, o1, e6, -, v6, j6⟩ := E6
    obtain ⟨w1, τ1, e7, t7, v7, j7⟩ := E7
    exact fin1 (fun x => x) e6 e7 t7 (fun w => by rw [v6 w, updL_s]; exact v7 w) (j7 _ (j6 _ h))
