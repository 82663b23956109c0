/-! Steps 23, 24: row, slope. -/
theorem nwt3 {C : Int} {w : Nat → Int64} {wt : Int → Int} (h5 : C ≤ 5) (hw : E6 C w wt) (hb : Bw C wt) {k : Int} (k0 : 0 ≤ k) (k1 : k < C) : (wt k ≠ 0 → mX6_needWeight (z3 C) w (z3 k) = some 0) ∧ (wt k = 0 → mX6_needWeight (z3 C) w (z3 k) = some 3) := by
  have b := hb k k0 k1
  unfold mX6_needWeight
  rw [weightOf3 h5 k0 k1, Option.bind_some, hw k k0 k1]
  constructor
  · intro h
    rw [if_neg (fun z => h ((z6eq (by omega) (by omega) (by omega) (by omega)).1 (Eq.trans z l6_0)))]
  · intro h
    rw [h, if_pos l6_0.symm]
theorem hrw7 {C : Int} {w1 w0 : Nat → Int64} {wt : Int → Int} {o1 o0 s : Nat → Int32} (h5 : C ≤ 5) (e1 : mX7_laysWeights o0 s w0 = some (o1, w1)) (hw : E6 C w1 wt) (hb : Bw C wt) {k : Int} (k0 : 0 ≤ k) (k1 : k < C) : (wt k ≠ 0 → mX7_hasRow o0 s w0 (z3 k) = some (1, o1, w1)) ∧ (wt k = 0 → mX7_hasRow o0 s w0 (z3 k) = some (0, o1, w1)) := by
  have b := hb k k0 k1
  have e := hw k k0 k1
  unfold mX7_hasRow
  rw [e1, Option.bind_some, if_neg (gix k0 (by omega) (by decide))]
  constructor
  · intro h
    rw [if_neg (fun z => h ((z6eq (by omega) (by omega) (by omega) (by omega)).1 (Eq.trans (by rw [z3nat (by omega) (by omega)] at z; exact e.symm.trans z) l6_0)))]
  · intro h
    rw [if_pos (by rw [z3nat (by omega) (by omega)]; show w1 k.toNat = 0; rw [e, h]; rfl)]
theorem ok_24 : SOK q_24 := by
  intro u z h
  obtain ⟨a, hO, ⟨⟨hc, hd, hm, hw, hx, hy⟩, ⟨hv, ho, hwt⟩⟩, ⟨s0, s1, s2, tx, ty, tw⟩⟩ := h.1
  have O := hO
  obtain ⟨h0, h5, m0, m1, d0, d1, hr, hry, hrw, hi⟩ := O
  have hbw := hO.bw
  obtain ⟨p, p0, p1, hu⟩ := ex3 (u 1)
  obtain ⟨y, y0, y1, hu2⟩ := ex3 (u 2)
  unfold q_24
  rw [hu, hu2]
  obtain ⟨o1, w1, e1, e2, e3⟩ := lw7 hO ⟨s0, s1, s2, tx, ty, tw⟩ (a7_order z.2.1) (a7_weights z.2.1)
  by_cases c1 : 0 ≤ p ∧ p < zC a
  · obtain ⟨N1, N2⟩ := nwt3 h5 hwt hbw c1.1 c1.2
    obtain ⟨H1, H2⟩ := hrw7 h5 e1 e3 hbw c1.1 c1.2
    by_cases c2 : 0 ≤ y ∧ y ≤ 1
    · by_cases c3 : zw a p = 0
      · have m6 : mX6_slope (a6_answer_bottom z.1) (a6_answer_top z.1) (a6_present_nodes_count z.1) (a6_present_nodes_xs z.1) (a6_present_nodes_ys z.1) (a6_present_weights z.1) (z3 p) (z3 y) = some (3, 0, a6_answer_bottom z.1, a6_answer_top z.1) := by
          unfold mX6_slope
          rw [hc, nt_y h0 h5 c1 p0 p1, Option.bind_some, if_pos rfl, np_y c2 y0 y1, Option.bind_some, if_pos rfl, N2 c3]
          rfl
        have m7 : mX7_slope (a7_low z.2.1) (a7_order z.2.1) (a7_s z.2.1) (a7_thrown z.2.1) (a7_up z.2.1) (a7_weights z.2.1) (z3 p) (z3 y) = some (0, a7_low z.2.1, o1, 3, a7_up z.2.1, w1) := by
          unfold mX7_slope
          rw [it_y s2 h0 h5 c1 p0 p1, Option.bind_some, ip_y c2 y0 y1, Option.bind_some, if_neg n10, H2 c3, Option.bind_some, if_pos rfl, g3_110]
          rfl
        have E6 : ∃ σ1 o1, h_slope z.1 (z3 p) (z3 y) z.2.2.1 = some (3, σ1, o1) ∧ (o1 0 = o1 0) ∧ ((3 : Int32) = 0 → o1 = vp_updL z.2.2.1 0 (0)) ∧ ∀ τ, JZ z.1 τ → JZ σ1 τ := by
          apply Exists.intro
          apply Exists.intro
          refine ⟨?_, rfl, ?_, ?_⟩
          · unfold h_slope s6_slope
            rw [m6]
            rfl
          · exact fun w => absurd w (by decide)
          · exact fun τ h => h
        have E7 : ∃ v1 τ1, s7_slope z.2.1 (z3 p) (z3 y) = some (v1, τ1) ∧ a7_thrown τ1 = 3 ∧ ((3 : Int32) = 0 → (0) = (fun x => x) v1) ∧ ∀ σ, JZ σ z.2.1 → JZ σ τ1 := by
          apply Exists.intro
          apply Exists.intro
          refine ⟨?_, ?_, ?_, ?_⟩
          · unfold s7_slope
            rw [m7]
            rfl
          · rfl
          · exact fun w => absurd w (by decide)
          · exact fun σ h => h
        obtain ⟨σ1, o1, e6, -, v6, j6⟩ := E6
        obtain ⟨w1, τ1, e7, t7, v7, j7⟩ := E7
        exact fin1 (fun x => x) e6 e7 t7 (fun w => by rw [v6 w, updL_s]; exact v7 w) (j7 _ (j6 _ h))
      · have A3 := slo3 h0 h5 hx hy hr hry hi hwt hbw c1.1 c1.2 c3 (a6_answer_bottom z.1) (a6_answer_top z.1)
        have A7 := oth7 (F := fun j => zY a j - zY a p) h0 h5 s2 tx ty hr hry hi e3 hbw c1.1 c1.2 (fl := 1) (Or.inr ⟨rfl, rfl⟩) c3 (a7_low z.2.1) (a7_up z.2.1)
        generalize rdB (smz (ozt (zC a) (zX a) (zw a) (fun j => zY a j - zY a p) p) (zC a).toNat 0) (zw a p * ozz (zC a) (zX a) p) = vb at A3 A7
        generalize rdT (smz (ozt (zC a) (zX a) (zw a) (fun j => zY a j - zY a p) p) (zC a).toNat 0) (zw a p * ozz (zC a) (zX a) p) = vt at A3 A7
        have m6 : mX6_slope (a6_answer_bottom z.1) (a6_answer_top z.1) (a6_present_nodes_count z.1) (a6_present_nodes_xs z.1) (a6_present_nodes_ys z.1) (a6_present_weights z.1) (z3 p) (z3 y) = some (0, (if y = 0 then z6 vt else z6 vb), z6 vb, z6 vt) := by
          unfold mX6_slope
          rw [hc, nt_y h0 h5 c1 p0 p1, Option.bind_some, if_pos rfl, np_y c2 y0 y1, Option.bind_some, if_pos rfl, N1 c3, Option.bind_some, if_pos rfl, A3, Option.bind_some, part3 _ _ c2]
          rfl
        have m7 : mX7_slope (a7_low z.2.1) (a7_order z.2.1) (a7_s z.2.1) (a7_thrown z.2.1) (a7_up z.2.1) (a7_weights z.2.1) (z3 p) (z3 y) = some ((if y = 0 then z6 vt else z6 vb), z6 vb, o1, 0, z6 vt, w1) := by
          unfold mX7_slope
          rw [it_y s2 h0 h5 c1 p0 p1, Option.bind_some, ip_y c2 y0 y1, Option.bind_some, if_neg n10, H1 c3, Option.bind_some, if_neg n10, g3_111, Option.bind_some, if_neg n10, A7, Option.bind_some, told7 _ _ c2]
          rfl
        have E6 : ∃ σ1 o1, h_slope z.1 (z3 p) (z3 y) z.2.2.1 = some (0, σ1, o1) ∧ (o1 0 = o1 0) ∧ ((0 : Int32) = 0 → o1 = vp_updL z.2.2.1 0 (if y = 0 then z6 vt else z6 vb)) ∧ ∀ τ, JZ z.1 τ → JZ σ1 τ := by
          apply Exists.intro
          apply Exists.intro
          refine ⟨?_, rfl, ?_, ?_⟩
          · unfold h_slope s6_slope
            rw [m6]
            rfl
          · exact fun _ => rfl
          · exact fun τ h => h
        have E7 : ∃ v1 τ1, s7_slope z.2.1 (z3 p) (z3 y) = some (v1, τ1) ∧ a7_thrown τ1 = 0 ∧ ((0 : Int32) = 0 → (if y = 0 then z6 vt else z6 vb) = (fun x => x) v1) ∧ ∀ σ, JZ σ z.2.1 → JZ σ τ1 := by
          apply Exists.intro
          apply Exists.intro
          refine ⟨?_, ?_, ?_, ?_⟩
          · unfold s7_slope
            rw [m7]
            rfl
          · rfl
          · exact fun _ => rfl
          · exact fun σ h => h
        obtain ⟨σ1, o1, e6, -, v6, j6⟩ := E6
        obtain ⟨w1, τ1, e7, t7, v7, j7⟩ := E7
        exact fin1 (fun x => x) e6 e7 t7 (fun w => by rw [v6 w, updL_s]; exact v7 w) (j7 _ (j6 _ h))
    · have HR : ∃ b, mX7_hasRow (a7_order z.2.1) (a7_s z.2.1) (a7_weights z.2.1) (z3 p) = some (b, o1, w1) ∧ (b = 0 ∨ b = 1) := by
        by_cases c3 : zw a p = 0
        · exact ⟨0, H2 c3, Or.inl rfl⟩
        · exact ⟨1, H1 c3, Or.inr rfl⟩
      obtain ⟨b, HR, hb⟩ := HR
      have m6 : mX6_slope (a6_answer_bottom z.1) (a6_answer_top z.1) (a6_present_nodes_count z.1) (a6_present_nodes_xs z.1) (a6_present_nodes_ys z.1) (a6_present_weights z.1) (z3 p) (z3 y) = some (2, 0, a6_answer_bottom z.1, a6_answer_top z.1) := by
        unfold mX6_slope
        rw [hc, nt_y h0 h5 c1 p0 p1, Option.bind_some, if_pos rfl, np_n c2 y0 y1]
        rfl
      have m7 : mX7_slope (a7_low z.2.1) (a7_order z.2.1) (a7_s z.2.1) (a7_thrown z.2.1) (a7_up z.2.1) (a7_weights z.2.1) (z3 p) (z3 y) = some (0, a7_low z.2.1, o1, 2, a7_up z.2.1, w1) := by
        unfold mX7_slope
        rw [it_y s2 h0 h5 c1 p0 p1, Option.bind_some, ip_n c2 y0 y1, Option.bind_some, if_neg n10, HR, Option.bind_some]
        rcases hb with rfl | rfl
        · rw [if_pos rfl, g3_10]; rfl
        · rw [if_neg n10, g3_10]; rfl
      have E6 : ∃ σ1 o1, h_slope z.1 (z3 p) (z3 y) z.2.2.1 = some (2, σ1, o1) ∧ (o1 0 = o1 0) ∧ ((2 : Int32) = 0 → o1 = vp_updL z.2.2.1 0 (0)) ∧ ∀ τ, JZ z.1 τ → JZ σ1 τ := by
        apply Exists.intro
        apply Exists.intro
        refine ⟨?_, rfl, ?_, ?_⟩
        · unfold h_slope s6_slope
          rw [m6]
          rfl
        · exact fun w => absurd w (by decide)
        · exact fun τ h => h
      have E7 : ∃ v1 τ1, s7_slope z.2.1 (z3 p) (z3 y) = some (v1, τ1) ∧ a7_thrown τ1 = 2 ∧ ((2 : Int32) = 0 → (0) = (fun x => x) v1) ∧ ∀ σ, JZ σ z.2.1 → JZ σ τ1 := by
        apply Exists.intro
        apply Exists.intro
        refine ⟨?_, ?_, ?_, ?_⟩
        · unfold s7_slope
          rw [m7]
          rfl
        · rfl
        · exact fun w => absurd w (by decide)
        · exact fun σ h => h
      obtain ⟨σ1, o1, e6, -, v6, j6⟩ := E6
      obtain ⟨w1, τ1, e7, t7, v7, j7⟩ := E7
      exact fin1 (fun x => x) e6 e7 t7 (fun w => by rw [v6 w, updL_s]; exact v7 w) (j7 _ (j6 _ h))
  · have HP : ∃ b, mX7_isPart (z3 y) = some b := by
      by_cases c2 : 0 ≤ y ∧ y ≤ 1
      · exact ⟨1, ip_y c2 y0 y1⟩
      · exact ⟨0, ip_n c2 y0 y1⟩
    obtain ⟨b, HP⟩ := HP
    have m6 : mX6_slope (a6_answer_bottom z.1) (a6_answer_top z.1) (a6_present_nodes_count z.1) (a6_present_nodes_xs z.1) (a6_present_nodes_ys z.1) (a6_present_weights z.1) (z3 p) (z3 y) = some (1, 0, a6_answer_bottom z.1, a6_answer_top z.1) := by
      unfold mX6_slope
      rw [hc, nt_n h0 h5 c1 p0 p1]
      rfl
    have m7 : mX7_slope (a7_low z.2.1) (a7_order z.2.1) (a7_s z.2.1) (a7_thrown z.2.1) (a7_up z.2.1) (a7_weights z.2.1) (z3 p) (z3 y) = some (0, a7_low z.2.1, a7_order z.2.1, 1, a7_up z.2.1, a7_weights z.2.1) := by
      unfold mX7_slope
      rw [it_n s2 h0 h5 c1 p0 p1, Option.bind_some, HP, Option.bind_some, if_pos rfl, g3_0]
      rfl
    have E6 : ∃ σ1 o1, h_slope z.1 (z3 p) (z3 y) z.2.2.1 = some (1, σ1, o1) ∧ (o1 0 = o1 0) ∧ ((1 : Int32) = 0 → o1 = vp_updL z.2.2.1 0 (0)) ∧ ∀ τ, JZ z.1 τ → JZ σ1 τ := by
      apply Exists.intro
      apply Exists.intro
      refine ⟨?_, rfl, ?_, ?_⟩
      · unfold h_slope s6_slope
        rw [m6]
        rfl
      · exact fun w => absurd w (by decide)
      · exact fun τ h => h
    have E7 : ∃ v1 τ1, s7_slope z.2.1 (z3 p) (z3 y) = some (v1, τ1) ∧ a7_thrown τ1 = 1 ∧ ((1 : Int32) = 0 → (0) = (fun x => x) v1) ∧ ∀ σ, JZ σ z.2.1 → JZ σ τ1 := by
      apply Exists.intro
      apply Exists.intro
      refine ⟨?_, ?_, ?_, ?_⟩
      · unfold s7_slope
        rw [m7]
        rfl
      · rfl
      · exact fun w => absurd w (by decide)
      · exact fun σ h => h
    obtain ⟨σ1, o1, e6, -, v6, j6⟩ := E6
    obtain ⟨w1, τ1, e7, t7, v7, j7⟩ := E7
    exact fin1 (fun x => x) e6 e7 t7 (fun w => by rw [v6 w, updL_s]; exact v7 w) (j7 _ (j6 _ h))
theorem ozt_m (C : Int) (X wt : Int → Int) (k j : Int) : ozt C X wt (fun _ => -1) k j = -1 * ozt C X wt (fun _ => 1) k j := by
  unfold ozt
  by_cases e : j = k
  · rw [if_pos e, if_pos e, Int.mul_zero]
  · rw [if_neg e, if_neg e]
    show wt j * -1 * _ = -1 * (wt j * 1 * _)
    rw [Int.mul_neg, Int.neg_mul, Int.neg_mul, Int.one_mul]
/-- both sides of a row -/
theorem rowZ {C p q : Int} {X Y wt : Int → Int} {xs s : Nat → Int32} {w w1 : Nat → Int64} (h0 : 0 ≤ C) (h5 : C ≤ 5) (hx : En 0 C xs X) (hs2 : s 2 = z3 C) (tx : En 3 C s X) (ty : En 8 C s Y) (hr : Rz C (-9) 9 X) (hry : Rz C (-20) 20 Y) (hi : Inj C X) (hw : E6 C w wt) (hw1 : E6 C w1 wt) (hb : Bw C wt) (p0 : 0 ≤ p) (p1 : p < C) (q0 : 0 ≤ q) (q1 : q < C) (hn : wt p ≠ 0) (b t lo up : Int64) :
    ∃ vb vt : Int64, mX0_putRow (z3 C) xs w b t (z3 p) (z3 q) = some (vb, vt) ∧ mX7_laysRow lo s up w1 (z3 p) (z3 q) = some (vb, vt) := by
  by_cases e : p = q
  · subst e
    have A3 := row3 h0 h5 hx hr hi hw hb p0 p1 hn b t
    have A7 := oth7 (F := fun _ => 1) h0 h5 hs2 tx ty hr hry hi hw1 hb p0 p1 (fl := 0) (Or.inl ⟨rfl, rfl⟩) hn lo up
    have M0 : wt p * ozz C X p ≠ 0 := Int.mul_ne_zero hn (ozz_n hi p0 p1)
    have es : smz (ozt C X wt (fun _ => -1) p) C.toNat 0 = -smz (ozt C X wt (fun _ => 1) p) C.toNat 0 := by
      rw [smz_c (g := fun j => -1 * ozt C X wt (fun _ => 1) p j) _ _ (fun i _ _ => ozt_m C X wt p i), smz_m]
      omega
    obtain ⟨n1, n2⟩ := rd_n (a := smz (ozt C X wt (fun _ => 1) p) C.toNat 0) M0
    rw [es, n1, n2] at A3
    refine ⟨_, _, A3, ?_⟩
    unfold mX7_laysRow
    rw [if_pos rfl, A7, Option.bind_some, z6n]
  · have r1 := hr p p0 p1
    have r2 := hr q q0 q1
    have x1 := hx.z p0 p1
    have x2 := hx.z q0 q1
    have t1 := tx p p0 p1
    have t2 := tx q q0 q1
    have w1p := hw p p0 p1
    have w1q := hw q q0 q1
    have w2p := hw1 p p0 p1
    have w2q := hw1 q q0 q1
    have bp := hb p p0 p1
    have bq := hb q q0 q1
    have d0 : X p - X q ≠ 0 := fun z => e (hi p q p0 p1 q0 q1 (by omega))
    have M0 : wt p * (X p - X q) ≠ 0 := Int.mul_ne_zero hn d0
    have bm : (wt p * (X p - X q)).natAbs ≤ 6377292000 * 18 := natAbs_mul_le bp (by omega)
    have AD := addF (N := 0) (M := wt p * (X p - X q)) (p1 := wt q) (p2 := wt p * (X p - X q)) (q := 1) M0 (by rw [Int.mul_one]) (by omega) (by omega)
    rw [show 0 + wt q * 1 = wt q by omega] at AD
    refine ⟨z6 (rdB (wt q) (wt p * (X p - X q))), z6 (rdT (wt q) (wt p * (X p - X q))), ?_, ?_⟩
    · unfold mX0_putRow mX0_addToRow
      rw [put0 b t M0, Option.bind_some, if_neg (fun z => e ((z3eq (by omega) (by omega) (by omega) (by omega)).1 z).symm), xOfz p0 (by omega), Option.bind_some, xOfz q0 (by omega), Option.bind_some, weightOf3 h5 q0 q1, Option.bind_some, weightOf3 h5 p0 p1, Option.bind_some, x1, x2, w1p, w1q, z3s, l3_1, z364 (by omega) (by omega), z364 (by omega) (by omega), z6m, z6m, Int.mul_one, AD]
      rfl
    · unfold mX7_laysRow
      rw [if_neg (fun z => e ((z3eq (by omega) (by omega) (by omega) (by omega)).1 z)), if_neg (gix (by omega) (by omega) (by decide)), if_neg (gix (by omega) (by omega) (by decide)), show (3 : Int32) = z3 3 from rfl, z3a, z3a, if_neg (gix (by omega) (by omega) (by decide)), if_neg (gix (by omega) (by omega) (by decide)), z3nat (by omega) (by omega), z3nat (by omega) (by omega), z3nat (by omega) (by omega), z3nat (by omega) (by omega), t1, t2, w2p, w2q, z3s, z364 (by omega) (by omega), z6m, lays7 (by omega) (by omega) (by omega) (by omega) M0]
      rfl
theorem ok_23 : SOK q_23 := by
  intro u z h
  obtain ⟨a, hO, ⟨⟨hc, hd, hm, hw, hx, hy⟩, ⟨hv, ho, hwt⟩⟩, ⟨s0, s1, s2, tx, ty, tw⟩⟩ := h.1
  have O := hO
  obtain ⟨h0, h5, m0, m1, d0, d1, hr, hry, hrw, hi⟩ := O
  have hbw := hO.bw
  obtain ⟨p, p0, p1, hu⟩ := ex3 (u 1)
  obtain ⟨q, q0, q1, hu2⟩ := ex3 (u 2)
  obtain ⟨y, y0, y1, hu3⟩ := ex3 (u 3)
  unfold q_23
  rw [hu, hu2, hu3]
  obtain ⟨o1, w1, e1, e2, e3⟩ := lw7 hO ⟨s0, s1, s2, tx, ty, tw⟩ (a7_order z.2.1) (a7_weights z.2.1)
  have HP : ∃ b, mX7_isPart (z3 y) = some b := by
    by_cases c2 : 0 ≤ y ∧ y ≤ 1
    · exact ⟨1, ip_y c2 y0 y1⟩
    · exact ⟨0, ip_n c2 y0 y1⟩
  by_cases c1 : 0 ≤ p ∧ p < zC a
  · obtain ⟨N1, N2⟩ := nwt3 h5 hwt hbw c1.1 c1.2
    obtain ⟨H1, H2⟩ := hrw7 h5 e1 e3 hbw c1.1 c1.2
    by_cases c4 : 0 ≤ q ∧ q < zC a
    · by_cases c2 : 0 ≤ y ∧ y ≤ 1
      · by_cases c3 : zw a p = 0
        · have m6 : mX6_row (a6_answer_bottom z.1) (a6_answer_top z.1) (a6_present_nodes_count z.1) (a6_present_nodes_xs z.1) (a6_present_weights z.1) (z3 p) (z3 q) (z3 y) = some (3, 0, a6_answer_bottom z.1, a6_answer_top z.1) := by
            unfold mX6_row
            rw [hc, nt_y h0 h5 c1 p0 p1, Option.bind_some, if_pos rfl, nt_y h0 h5 c4 q0 q1, Option.bind_some, if_pos rfl, np_y c2 y0 y1, Option.bind_some, if_pos rfl, N2 c3]
            rfl
          have m7 : mX7_row (a7_low z.2.1) (a7_order z.2.1) (a7_s z.2.1) (a7_thrown z.2.1) (a7_up z.2.1) (a7_weights z.2.1) (z3 p) (z3 q) (z3 y) = some (0, a7_low z.2.1, o1, 3, a7_up z.2.1, w1) := by
            unfold mX7_row
            rw [it_y s2 h0 h5 c1 p0 p1, Option.bind_some, if_neg n10, it_y s2 h0 h5 c4 q0 q1, Option.bind_some, if_neg n10, ip_y c2 y0 y1, Option.bind_some, if_neg n10, H2 c3, Option.bind_some, if_pos rfl, g3_110]
            rfl
          have E6 : ∃ σ1 o1, h_row z.1 (z3 p) (z3 q) (z3 y) z.2.2.1 = some (3, σ1, o1) ∧ (o1 0 = o1 0) ∧ ((3 : Int32) = 0 → o1 = vp_updL z.2.2.1 0 (0)) ∧ ∀ τ, JZ z.1 τ → JZ σ1 τ := by
            apply Exists.intro
            apply Exists.intro
            refine ⟨?_, rfl, ?_, ?_⟩
            · unfold h_row s6_row
              rw [m6]
              rfl
            · exact fun w => absurd w (by decide)
            · exact fun τ h => h
          have E7 : ∃ v1 τ1, s7_row z.2.1 (z3 p) (z3 q) (z3 y) = some (v1, τ1) ∧ a7_thrown τ1 = 3 ∧ ((3 : Int32) = 0 → (0) = (fun x => x) v1) ∧ ∀ σ, JZ σ z.2.1 → JZ σ τ1 := by
            apply Exists.intro
            apply Exists.intro
            refine ⟨?_, ?_, ?_, ?_⟩
            · unfold s7_row
              rw [m7]
              rfl
            · rfl
            · exact fun w => absurd w (by decide)
            · exact fun σ h => h
          obtain ⟨σ1, o1, e6, -, v6, j6⟩ := E6
          obtain ⟨w1, τ1, e7, t7, v7, j7⟩ := E7
          exact fin1 (fun x => x) e6 e7 t7 (fun w => by rw [v6 w, updL_s]; exact v7 w) (j7 _ (j6 _ h))
        · obtain ⟨vb, vt, A3, A7⟩ := rowZ h0 h5 hx s2 tx ty hr hry hi hwt e3 hbw c1.1 c1.2 c4.1 c4.2 c3 (a6_answer_bottom z.1) (a6_answer_top z.1) (a7_low z.2.1) (a7_up z.2.1)
          have m6 : mX6_row (a6_answer_bottom z.1) (a6_answer_top z.1) (a6_present_nodes_count z.1) (a6_present_nodes_xs z.1) (a6_present_weights z.1) (z3 p) (z3 q) (z3 y) = some (0, (if y = 0 then vt else vb), vb, vt) := by
            unfold mX6_row
            rw [hc, nt_y h0 h5 c1 p0 p1, Option.bind_some, if_pos rfl, nt_y h0 h5 c4 q0 q1, Option.bind_some, if_pos rfl, np_y c2 y0 y1, Option.bind_some, if_pos rfl, N1 c3, Option.bind_some, if_pos rfl, A3, Option.bind_some, part3 _ _ c2]
            rfl
          have m7 : mX7_row (a7_low z.2.1) (a7_order z.2.1) (a7_s z.2.1) (a7_thrown z.2.1) (a7_up z.2.1) (a7_weights z.2.1) (z3 p) (z3 q) (z3 y) = some ((if y = 0 then vt else vb), vb, o1, 0, vt, w1) := by
            unfold mX7_row
            rw [it_y s2 h0 h5 c1 p0 p1, Option.bind_some, if_neg n10, it_y s2 h0 h5 c4 q0 q1, Option.bind_some, if_neg n10, ip_y c2 y0 y1, Option.bind_some, if_neg n10, H1 c3, Option.bind_some, if_neg n10, g3_111, Option.bind_some, if_neg n10, A7, Option.bind_some, told7 _ _ c2]
            rfl
          have E6 : ∃ σ1 o1, h_row z.1 (z3 p) (z3 q) (z3 y) z.2.2.1 = some (0, σ1, o1) ∧ (o1 0 = o1 0) ∧ ((0 : Int32) = 0 → o1 = vp_updL z.2.2.1 0 (if y = 0 then vt else vb)) ∧ ∀ τ, JZ z.1 τ → JZ σ1 τ := by
            apply Exists.intro
            apply Exists.intro
            refine ⟨?_, rfl, ?_, ?_⟩
            · unfold h_row s6_row
              rw [m6]
              rfl
            · exact fun _ => rfl
            · exact fun τ h => h
          have E7 : ∃ v1 τ1, s7_row z.2.1 (z3 p) (z3 q) (z3 y) = some (v1, τ1) ∧ a7_thrown τ1 = 0 ∧ ((0 : Int32) = 0 → (if y = 0 then vt else vb) = (fun x => x) v1) ∧ ∀ σ, JZ σ z.2.1 → JZ σ τ1 := by
            apply Exists.intro
            apply Exists.intro
            refine ⟨?_, ?_, ?_, ?_⟩
            · unfold s7_row
              rw [m7]
              rfl
            · rfl
            · exact fun _ => rfl
            · exact fun σ h => h
          obtain ⟨σ1, o1, e6, -, v6, j6⟩ := E6
          obtain ⟨w1, τ1, e7, t7, v7, j7⟩ := E7
          exact fin1 (fun x => x) e6 e7 t7 (fun w => by rw [v6 w, updL_s]; exact v7 w) (j7 _ (j6 _ h))
      · have HR : ∃ b, mX7_hasRow (a7_order z.2.1) (a7_s z.2.1) (a7_weights z.2.1) (z3 p) = some (b, o1, w1) ∧ (b = 0 ∨ b = 1) := by
          by_cases c3 : zw a p = 0
          · exact ⟨0, H2 c3, Or.inl rfl⟩
          · exact ⟨1, H1 c3, Or.inr rfl⟩
        obtain ⟨b, HR, hb⟩ := HR
        have m6 : mX6_row (a6_answer_bottom z.1) (a6_answer_top z.1) (a6_present_nodes_count z.1) (a6_present_nodes_xs z.1) (a6_present_weights z.1) (z3 p) (z3 q) (z3 y) = some (2, 0, a6_answer_bottom z.1, a6_answer_top z.1) := by
          unfold mX6_row
          rw [hc, nt_y h0 h5 c1 p0 p1, Option.bind_some, if_pos rfl, nt_y h0 h5 c4 q0 q1, Option.bind_some, if_pos rfl, np_n c2 y0 y1]
          rfl
        have m7 : mX7_row (a7_low z.2.1) (a7_order z.2.1) (a7_s z.2.1) (a7_thrown z.2.1) (a7_up z.2.1) (a7_weights z.2.1) (z3 p) (z3 q) (z3 y) = some (0, a7_low z.2.1, o1, 2, a7_up z.2.1, w1) := by
          unfold mX7_row
          rw [it_y s2 h0 h5 c1 p0 p1, Option.bind_some, if_neg n10, it_y s2 h0 h5 c4 q0 q1, Option.bind_some, if_neg n10, ip_n c2 y0 y1, Option.bind_some, if_neg n10, HR, Option.bind_some]
          rcases hb with rfl | rfl
          · rw [if_pos rfl, g3_10]; rfl
          · rw [if_neg n10, g3_10]; rfl
        have E6 : ∃ σ1 o1, h_row z.1 (z3 p) (z3 q) (z3 y) z.2.2.1 = some (2, σ1, o1) ∧ (o1 0 = o1 0) ∧ ((2 : Int32) = 0 → o1 = vp_updL z.2.2.1 0 (0)) ∧ ∀ τ, JZ z.1 τ → JZ σ1 τ := by
          apply Exists.intro
          apply Exists.intro
          refine ⟨?_, rfl, ?_, ?_⟩
          · unfold h_row s6_row
            rw [m6]
            rfl
          · exact fun w => absurd w (by decide)
          · exact fun τ h => h
        have E7 : ∃ v1 τ1, s7_row z.2.1 (z3 p) (z3 q) (z3 y) = some (v1, τ1) ∧ a7_thrown τ1 = 2 ∧ ((2 : Int32) = 0 → (0) = (fun x => x) v1) ∧ ∀ σ, JZ σ z.2.1 → JZ σ τ1 := by
          apply Exists.intro
          apply Exists.intro
          refine ⟨?_, ?_, ?_, ?_⟩
          · unfold s7_row
            rw [m7]
            rfl
          · rfl
          · exact fun w => absurd w (by decide)
          · exact fun σ h => h
        obtain ⟨σ1, o1, e6, -, v6, j6⟩ := E6
        obtain ⟨w1, τ1, e7, t7, v7, j7⟩ := E7
        exact fin1 (fun x => x) e6 e7 t7 (fun w => by rw [v6 w, updL_s]; exact v7 w) (j7 _ (j6 _ h))
    · obtain ⟨b, HP⟩ := HP
      have m6 : mX6_row (a6_answer_bottom z.1) (a6_answer_top z.1) (a6_present_nodes_count z.1) (a6_present_nodes_xs z.1) (a6_present_weights z.1) (z3 p) (z3 q) (z3 y) = some (1, 0, a6_answer_bottom z.1, a6_answer_top z.1) := by
        unfold mX6_row
        rw [hc, nt_y h0 h5 c1 p0 p1, Option.bind_some, if_pos rfl, nt_n h0 h5 c4 q0 q1]
        rfl
      have m7 : mX7_row (a7_low z.2.1) (a7_order z.2.1) (a7_s z.2.1) (a7_thrown z.2.1) (a7_up z.2.1) (a7_weights z.2.1) (z3 p) (z3 q) (z3 y) = some (0, a7_low z.2.1, a7_order z.2.1, 1, a7_up z.2.1, a7_weights z.2.1) := by
        unfold mX7_row
        rw [it_y s2 h0 h5 c1 p0 p1, Option.bind_some, if_neg n10, it_n s2 h0 h5 c4 q0 q1, Option.bind_some, if_pos rfl, HP, Option.bind_some, if_pos rfl, g3_0]
        rfl
      have E6 : ∃ σ1 o1, h_row z.1 (z3 p) (z3 q) (z3 y) z.2.2.1 = some (1, σ1, o1) ∧ (o1 0 = o1 0) ∧ ((1 : Int32) = 0 → o1 = vp_updL z.2.2.1 0 (0)) ∧ ∀ τ, JZ z.1 τ → JZ σ1 τ := by
        apply Exists.intro
        apply Exists.intro
        refine ⟨?_, rfl, ?_, ?_⟩
        · unfold h_row s6_row
          rw [m6]
          rfl
        · exact fun w => absurd w (by decide)
        · exact fun τ h => h
      have E7 : ∃ v1 τ1, s7_row z.2.1 (z3 p) (z3 q) (z3 y) = some (v1, τ1) ∧ a7_thrown τ1 = 1 ∧ ((1 : Int32) = 0 → (0) = (fun x => x) v1) ∧ ∀ σ, JZ σ z.2.1 → JZ σ τ1 := by
        apply Exists.intro
        apply Exists.intro
        refine ⟨?_, ?_, ?_, ?_⟩
        · unfold s7_row
          rw [m7]
          rfl
        · rfl
        · exact fun w => absurd w (by decide)
        · exact fun σ h => h
      obtain ⟨σ1, o1, e6, -, v6, j6⟩ := E6
      obtain ⟨w1, τ1, e7, t7, v7, j7⟩ := E7
      exact fin1 (fun x => x) e6 e7 t7 (fun w => by rw [v6 w, updL_s]; exact v7 w) (j7 _ (j6 _ h))
  · obtain ⟨b, HP⟩ := HP
    have m6 : mX6_row (a6_answer_bottom z.1) (a6_answer_top z.1) (a6_present_nodes_count z.1) (a6_present_nodes_xs z.1) (a6_present_weights z.1) (z3 p) (z3 q) (z3 y) = some (1, 0, a6_answer_bottom z.1, a6_answer_top z.1) := by
      unfold mX6_row
      rw [hc, nt_n h0 h5 c1 p0 p1]
      rfl
    have m7 : mX7_row (a7_low z.2.1) (a7_order z.2.1) (a7_s z.2.1) (a7_thrown z.2.1) (a7_up z.2.1) (a7_weights z.2.1) (z3 p) (z3 q) (z3 y) = some (0, a7_low z.2.1, a7_order z.2.1, 1, a7_up z.2.1, a7_weights z.2.1) := by
      unfold mX7_row
      rw [it_n s2 h0 h5 c1 p0 p1, Option.bind_some, if_pos rfl, HP, Option.bind_some, if_pos rfl, g3_0]
      rfl
    have E6 : ∃ σ1 o1, h_row z.1 (z3 p) (z3 q) (z3 y) z.2.2.1 = some (1, σ1, o1) ∧ (o1 0 = o1 0) ∧ ((1 : Int32) = 0 → o1 = vp_updL z.2.2.1 0 (0)) ∧ ∀ τ, JZ z.1 τ → JZ σ1 τ := by
      apply Exists.intro
      apply Exists.intro
      refine ⟨?_, rfl, ?_, ?_⟩
      · unfold h_row s6_row
        rw [m6]
        rfl
      · exact fun w => absurd w (by decide)
      · exact fun τ h => h
    have E7 : ∃ v1 τ1, s7_row z.2.1 (z3 p) (z3 q) (z3 y) = some (v1, τ1) ∧ a7_thrown τ1 = 1 ∧ ((1 : Int32) = 0 → (0) = (fun x => x) v1) ∧ ∀ σ, JZ σ z.2.1 → JZ σ τ1 := by
      apply Exists.intro
      apply Exists.intro
      refine ⟨?_, ?_, ?_, ?_⟩
      · unfold s7_row
        rw [m7]
        rfl
      · rfl
      · exact fun w => absurd w (by decide)
      · exact fun σ h => h
    obtain ⟨σ1, o1, e6, -, v6, j6⟩ := E6
    obtain ⟨w1, τ1, e7, t7, v7, j7⟩ := E7
    exact fin1 (fun x => x) e6 e7 t7 (fun w => by rw [v6 w, updL_s]; exact v7 w) (j7 _ (j6 _ h))
