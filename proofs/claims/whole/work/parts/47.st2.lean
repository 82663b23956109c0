/-! Steps that only read: weight, coefficient, kindAt, value, about, isMet. -/
theorem gix {x : Int} {n : Nat} (h : 0 ≤ x) (h2 : x < n) (h3 : n ≤ 1000) : ¬ (z3 x < 0 ∨ n ≤ Int32.toNatClampNeg (z3 x)) := by
  rw [z3nat (by omega) (by omega), l3_0, z3lt (by omega) (by omega) (by omega) (by omega)]
  omega
/-- a loop that may leave early -/
theorem rune {α β : Type} (L : Nat → Int → α → Option β) (P : Int → α → Prop) (Q : β → Prop) (C : Int)
    (hs : ∀ (n : Nat) (j : Int) (a : α), j < C → P j a → (∃ b, L (n + 1) j a = some b ∧ Q b) ∨ ∃ a1, L (n + 1) j a = L n (j + 1) a1 ∧ P (j + 1) a1)
    (he : ∀ (n : Nat) (a : α), P C a → ∃ b, L (n + 1) C a = some b ∧ Q b) :
    ∀ (m n : Nat) (j : Int) (a : α), j + m = C → m < n → P j a → ∃ b, L n j a = some b ∧ Q b := by
  intro m
  induction m with
  | zero =>
    intro n j a h1 h2 h3
    obtain ⟨n, rfl⟩ : ∃ q, n = q + 1 := ⟨n - 1, by omega⟩
    have e : j = C := by omega
    subst e
    exact he n a h3
  | succ m ih =>
    intro n j a h1 h2 h3
    obtain ⟨n, rfl⟩ : ∃ q, n = q + 1 := ⟨n - 1, by omega⟩
    rcases hs n j a (by omega) h3 with h | ⟨a1, e1, e2⟩
    · exact h
    · rw [e1]
      exact ih n (j + 1) a1 (by omega) (by omega) e2
theorem Tz_n {fl : Int32} (h : ¬ fl = 0) (wt Y : Int → Int) : Tz fl wt Y = Tz 1 wt Y := funext fun _ => (if_neg h).trans (if_neg (by decide)).symm
theorem Crv.fl {C : Int} {X Y wt : Int → Int} {fd fn : Nat → Int64} (h : Crv C X Y wt fd fn) (fl : Int32) : E6 5 (if fl = 0 then fn else fd) (cfz X (Tz fl wt Y) C.toNat C.toNat) := by
  by_cases w : fl = 0
  · subst w
    exact h.2
  · rw [if_neg w, Tz_n w]
    exact h.1
theorem coefs7 {a : AZ} {s : Nat → Int32} (hO : OkZ a) (h : N7 a s) (fl : Int32) (c : Nat → Int64) (o : Nat → Int32) (p : Nat → Int64) (w : Nat → Int64) :
    ∃ c1 o1 p1 w1, mX7_laysCoefficients c o p s w fl = some (c1, o1, p1, w1) ∧ E6 5 c1 (cfz (zX a) (Tz fl (zw a) (zY a)) (zC a).toNat (zC a).toNat) := by
  obtain ⟨o1, w1, e1, e2, e3⟩ := lw7 hO h o w
  obtain ⟨h0, h5, m0, m1, d0, d1, hr, hry, hrw, hi⟩ := hO
  obtain ⟨s0, s1, s2, tx, ty, tw⟩ := h
  obtain ⟨r, k1, k2⟩ := coefs7_in h0 h5 s2 tx ty hr hry e3 fl c p
  refine ⟨r.1, o1, r.2, w1, ?_, k2⟩
  unfold mX7_laysCoefficients
  rw [e1, Option.bind_some, l3_0, ← Option.bind_assoc, k1]
  rfl
theorem hasV_y {a : AZ} {s : Nat → Int32} (hO : OkZ a) (h : N7 a s) {x : Int} (x0 : -12 ≤ x) (x1 : x ≤ 12) (hk : kiz (zC a) (zX a) (zY a) (zw a) x ≤ 1) (lo up : Int64) (o : Nat → Int32) (w : Nat → Int64) :
    ∃ o1 w1, mX7_hasValue lo o s up w (z3 x) = some (1, z6 (vB (zC a) (zX a) (zY a) (zw a) x), o1, z6 (vT (zC a) (zX a) (zY a) (zw a) x), w1) := by
  obtain ⟨o1, w1, e1, e2, e3⟩ := lw7 hO h o w
  have hb := hO.bw
  obtain ⟨h0, h5, m0, m1, d0, d1, hr, hry, hrw, hi⟩ := hO
  obtain ⟨s0, s1, s2, tx, ty, tw⟩ := h
  refine ⟨o1, w1, ?_⟩
  have g : ¬ 2 ≤ z3 (kiz (zC a) (zX a) (zY a) (zw a) x) := by
    rcases kiz_c (zC a) (zX a) (zY a) (zw a) x with ⟨k, e⟩ | ⟨k, e, e2⟩ | k | k
    · rw [k]; decide
    · rw [k]; decide
    · omega
    · omega
  unfold mX7_hasValue
  rw [e1, Option.bind_some, kind7y h0 h5 s2 tx ty hr hry hb e3 x0 x1 hk, Option.bind_some, if_neg g]
theorem hasV_n {a : AZ} {s : Nat → Int32} (hO : OkZ a) (h : N7 a s) {x : Int} (x0 : -12 ≤ x) (x1 : x ≤ 12) (hk : ¬ kiz (zC a) (zX a) (zY a) (zw a) x ≤ 1) (lo up : Int64) (o : Nat → Int32) (w : Nat → Int64) :
    ∃ o1 w1, mX7_hasValue lo o s up w (z3 x) = some (0, lo, o1, up, w1) := by
  obtain ⟨o1, w1, e1, e2, e3⟩ := lw7 hO h o w
  have hb := hO.bw
  obtain ⟨h0, h5, m0, m1, d0, d1, hr, hry, hrw, hi⟩ := hO
  obtain ⟨s0, s1, s2, tx, ty, tw⟩ := h
  refine ⟨o1, w1, ?_⟩
  have g : 2 ≤ z3 (kiz (zC a) (zX a) (zY a) (zw a) x) := by
    rcases kiz_c (zC a) (zX a) (zY a) (zw a) x with ⟨k, e⟩ | ⟨k, e, e2⟩ | k | k
    · omega
    · omega
    · rw [k]; decide
    · rw [k]; decide
  unfold mX7_hasValue
  rw [e1, Option.bind_some, kind7n h0 h5 s2 tx ty hr hry hb e3 x0 x1 hk, Option.bind_some, if_pos g]
theorem ok_9 : SOK q_9 := by
  intro u z h
  obtain ⟨a, hO, ⟨⟨hc, hd, hm, hw, hx, hy⟩, ⟨hv, ho, hwt⟩⟩, ⟨s0, s1, s2, tx, ty, tw⟩⟩ := h.1
  have O := hO
  obtain ⟨h0, h5, m0, m1, d0, d1, hr, hry, hrw, hi⟩ := O
  have hbw := hO.bw
  obtain ⟨x, x0, x1, hu⟩ := ex3 (u 1)
  unfold q_9
  rw [hu]
  by_cases c1 : 0 ≤ x ∧ x < zC a
  · obtain ⟨o1, w1, e1, e2, e3⟩ := lw7 hO ⟨s0, s1, s2, tx, ty, tw⟩ (a7_order z.2.1) (a7_weights z.2.1)
    have m6 : mX6_weight (a6_present_nodes_count z.1) (a6_present_weights z.1) (z3 x) = some (0, z6 (zw a x)) := by
      unfold mX6_weight
      rw [hc, nt_y h0 h5 c1 x0 x1, Option.bind_some, if_pos rfl, weightOf3 h5 c1.1 c1.2, hwt x c1.1 c1.2]
      rfl
    have m7 : mX7_weight (a7_order z.2.1) (a7_s z.2.1) (a7_thrown z.2.1) (a7_weights z.2.1) (z3 x) = some (z6 (zw a x), o1, 0, w1) := by
      unfold mX7_weight
      rw [it_y s2 h0 h5 c1 x0 x1, Option.bind_some, gd1, Option.bind_some, if_neg (by decide), e1, Option.bind_some, if_neg (gix c1.1 (by omega) (by decide)), z3nat (by omega) (by omega)]
      show some (w1 x.toNat, o1, 0, w1) = _
      rw [e3 x c1.1 c1.2]
    have E6 : ∃ σ1 o1, h_weight z.1 (z3 x) z.2.2.1 = some (0, σ1, o1) ∧ (o1 0 = o1 0) ∧ ((0 : Int32) = 0 → o1 = vp_updL z.2.2.1 0 (z6 (zw a x))) ∧ ∀ τ, JZ z.1 τ → JZ σ1 τ := by
      apply Exists.intro
      apply Exists.intro
      refine ⟨?_, rfl, ?_, ?_⟩
      · unfold h_weight s6_weight
        rw [m6]
        rfl
      · exact fun _ => rfl
      · exact fun τ h => h
    have E7 : ∃ v1 τ1, s7_weight z.2.1 (z3 x) = some (v1, τ1) ∧ a7_thrown τ1 = 0 ∧ ((0 : Int32) = 0 → (z6 (zw a x)) = (fun x => x) v1) ∧ ∀ σ, JZ σ z.2.1 → JZ σ τ1 := by
      apply Exists.intro
      apply Exists.intro
      refine ⟨?_, ?_, ?_, ?_⟩
      · unfold s7_weight
        rw [m7]
        rfl
      · rfl
      · exact fun _ => rfl
      · exact fun σ h => h
    obtain ⟨σ1, o1, e6, -, v6, j6⟩ := E6
    obtain ⟨w1, τ1, e7, t7, v7, j7⟩ := E7
    exact fin1 (fun x => x) e6 e7 t7 (fun w => by rw [v6 w]; exact v7 w) (j7 _ (j6 _ h))
  · have m6 : mX6_weight (a6_present_nodes_count z.1) (a6_present_weights z.1) (z3 x) = some (1, 0) := by
      unfold mX6_weight
      rw [hc, nt_n h0 h5 c1 x0 x1]
      rfl
    have m7 : mX7_weight (a7_order z.2.1) (a7_s z.2.1) (a7_thrown z.2.1) (a7_weights z.2.1) (z3 x) = some (0, a7_order z.2.1, 1, a7_weights z.2.1) := by
      unfold mX7_weight
      rw [it_n s2 h0 h5 c1 x0 x1]
      rfl
    have E6 : ∃ σ1 o1, h_weight z.1 (z3 x) z.2.2.1 = some (1, σ1, o1) ∧ (o1 0 = o1 0) ∧ ((1 : Int32) = 0 → o1 = vp_updL z.2.2.1 0 (0)) ∧ ∀ τ, JZ z.1 τ → JZ σ1 τ := by
      apply Exists.intro
      apply Exists.intro
      refine ⟨?_, rfl, ?_, ?_⟩
      · unfold h_weight s6_weight
        rw [m6]
        rfl
      · exact fun w => absurd w (by decide)
      · exact fun τ h => h
    have E7 : ∃ v1 τ1, s7_weight z.2.1 (z3 x) = some (v1, τ1) ∧ a7_thrown τ1 = 1 ∧ ((1 : Int32) = 0 → (0) = (fun x => x) v1) ∧ ∀ σ, JZ σ z.2.1 → JZ σ τ1 := by
      apply Exists.intro
      apply Exists.intro
      refine ⟨?_, ?_, ?_, ?_⟩
      · unfold s7_weight
        rw [m7]
        rfl
      · rfl
      · exact fun w => absurd w (by decide)
      · exact fun σ h => h
    obtain ⟨σ1, o1, e6, -, v6, j6⟩ := E6
    obtain ⟨w1, τ1, e7, t7, v7, j7⟩ := E7
    exact fin1 (fun x => x) e6 e7 t7 (fun w => by rw [v6 w]; exact v7 w) (j7 _ (j6 _ h))
theorem ok_13 : SOK q_13 := by
  intro u z h
  obtain ⟨a, hO, ⟨⟨hc, hd, hm, hw, hx, hy⟩, ⟨hv, ho, hwt⟩⟩, ⟨s0, s1, s2, tx, ty, tw⟩⟩ := h.1
  have O := hO
  obtain ⟨h0, h5, m0, m1, d0, d1, hr, hry, hrw, hi⟩ := O
  have hbw := hO.bw
  obtain ⟨x, x0, x1, hu⟩ := ex3 (u 2)
  unfold q_13
  rw [hu]
  generalize qB (u 1) = fl
  by_cases c1 : 0 ≤ x ∧ x ≤ 4
  · obtain ⟨k1, k2, k3, k4, e1, e2⟩ := coefs7 hO ⟨s0, s1, s2, tx, ty, tw⟩ fl (a7_coefficients z.2.1) (a7_order z.2.1) (a7_product z.2.1) (a7_weights z.2.1)
    have m6 : mX6_coefficient (a6_present_denominator z.1) (a6_present_numerator z.1) fl (z3 x) = some (0, z6 (cfz (zX a) (Tz fl (zw a) (zY a)) (zC a).toNat (zC a).toNat x)) := by
      unfold mX6_coefficient
      rw [l3_0, l3_4, nb_y c1 x0 x1 (by omega) (by omega) (by omega) (by omega), Option.bind_some, if_pos rfl, factor3 fl (hv.fl fl) c1.1 (by omega)]
      rfl
    have m7 : mX7_coefficient (a7_coefficients z.2.1) (a7_order z.2.1) (a7_product z.2.1) (a7_s z.2.1) (a7_thrown z.2.1) (a7_weights z.2.1) fl (z3 x) = some (z6 (cfz (zX a) (Tz fl (zw a) (zY a)) (zC a).toNat (zC a).toNat x), k1, k2, k3, 0, k4) := by
      unfold mX7_coefficient
      rw [z364 x0 x1, show (0 : Int64) = z6 0 from rfl, show (4 : Int64) = z6 4 from rfl, ii_y c1 x0 x1 (by omega) (by omega) (by omega) (by omega), Option.bind_some, gd1, Option.bind_some, if_neg (by decide), e1, Option.bind_some, if_neg (gix c1.1 (by omega) (by decide)), z3nat (by omega) (by omega)]
      show some (k1 x.toNat, k1, k2, k3, 0, k4) = _
      rw [e2 x c1.1 (by omega)]
    have E6 : ∃ σ1 o1, h_coefficient z.1 fl (z3 x) z.2.2.1 = some (0, σ1, o1) ∧ (o1 0 = o1 0) ∧ ((0 : Int32) = 0 → o1 = vp_updL z.2.2.1 0 (z6 (cfz (zX a) (Tz fl (zw a) (zY a)) (zC a).toNat (zC a).toNat x))) ∧ ∀ τ, JZ z.1 τ → JZ σ1 τ := by
      apply Exists.intro
      apply Exists.intro
      refine ⟨?_, rfl, ?_, ?_⟩
      · unfold h_coefficient s6_coefficient
        rw [m6]
        rfl
      · exact fun _ => rfl
      · exact fun τ h => h
    have E7 : ∃ v1 τ1, s7_coefficient z.2.1 fl (z3 x) = some (v1, τ1) ∧ a7_thrown τ1 = 0 ∧ ((0 : Int32) = 0 → (z6 (cfz (zX a) (Tz fl (zw a) (zY a)) (zC a).toNat (zC a).toNat x)) = (fun x => x) v1) ∧ ∀ σ, JZ σ z.2.1 → JZ σ τ1 := by
      apply Exists.intro
      apply Exists.intro
      refine ⟨?_, ?_, ?_, ?_⟩
      · unfold s7_coefficient
        rw [m7]
        rfl
      · rfl
      · exact fun _ => rfl
      · exact fun σ h => h
    obtain ⟨σ1, o1, e6, -, v6, j6⟩ := E6
    obtain ⟨w1, τ1, e7, t7, v7, j7⟩ := E7
    exact fin1 (fun x => x) e6 e7 t7 (fun w => by rw [v6 w]; exact v7 w) (j7 _ (j6 _ h))
  · have m6 : mX6_coefficient (a6_present_denominator z.1) (a6_present_numerator z.1) fl (z3 x) = some (2, 0) := by
      unfold mX6_coefficient
      rw [l3_0, l3_4, nb_n c1 x0 x1 (by omega) (by omega) (by omega) (by omega)]
      rfl
    have m7 : mX7_coefficient (a7_coefficients z.2.1) (a7_order z.2.1) (a7_product z.2.1) (a7_s z.2.1) (a7_thrown z.2.1) (a7_weights z.2.1) fl (z3 x) = some (0, a7_coefficients z.2.1, a7_order z.2.1, a7_product z.2.1, 1, a7_weights z.2.1) := by
      unfold mX7_coefficient
      rw [z364 x0 x1, show (0 : Int64) = z6 0 from rfl, show (4 : Int64) = z6 4 from rfl, ii_n c1 x0 x1 (by omega) (by omega) (by omega) (by omega)]
      rfl
    have E6 : ∃ σ1 o1, h_coefficient z.1 fl (z3 x) z.2.2.1 = some (1, σ1, o1) ∧ (o1 0 = o1 0) ∧ ((1 : Int32) = 0 → o1 = vp_updL z.2.2.1 0 (0)) ∧ ∀ τ, JZ z.1 τ → JZ σ1 τ := by
      apply Exists.intro
      apply Exists.intro
      refine ⟨?_, rfl, ?_, ?_⟩
      · unfold h_coefficient s6_coefficient
        rw [m6]
        rfl
      · exact fun w => absurd w (by decide)
      · exact fun τ h => h
    have E7 : ∃ v1 τ1, s7_coefficient z.2.1 fl (z3 x) = some (v1, τ1) ∧ a7_thrown τ1 = 1 ∧ ((1 : Int32) = 0 → (0) = (fun x => x) v1) ∧ ∀ σ, JZ σ z.2.1 → JZ σ τ1 := by
      apply Exists.intro
      apply Exists.intro
      refine ⟨?_, ?_, ?_, ?_⟩
      · unfold s7_coefficient
        rw [m7]
        rfl
      · rfl
      · exact fun w => absurd w (by decide)
      · exact fun σ h => h
    obtain ⟨σ1, o1, e6, -, v6, j6⟩ := E6
    obtain ⟨w1, τ1, e7, t7, v7, j7⟩ := E7
    exact fin1 (fun x => x) e6 e7 t7 (fun w => by rw [v6 w]; exact v7 w) (j7 _ (j6 _ h))
theorem ok_14 : SOK q_14 := by
  intro u z h
  obtain ⟨a, hO, ⟨⟨hc, hd, hm, hw, hx, hy⟩, ⟨hv, ho, hwt⟩⟩, ⟨s0, s1, s2, tx, ty, tw⟩⟩ := h.1
  have O := hO
  obtain ⟨h0, h5, m0, m1, d0, d1, hr, hry, hrw, hi⟩ := O
  have hbw := hO.bw
  obtain ⟨x, x0, x1, hu⟩ := ex3 (u 1)
  unfold q_14
  rw [hu]
  by_cases c1 : -12 ≤ x ∧ x ≤ 12
  · obtain ⟨o1, w1, e1, e2, e3⟩ := lw7 hO ⟨s0, s1, s2, tx, ty, tw⟩ (a7_order z.2.1) (a7_weights z.2.1)
    by_cases c2 : kiz (zC a) (zX a) (zY a) (zw a) x ≤ 1
    · have m6 : mX6_kindAt (a6_present_denominator z.1) (a6_present_numerator z.1) (z3 x) = some (0, z3 (kiz (zC a) (zX a) (zY a) (zw a) x)) := by
        unfold mX6_kindAt
        rw [show (12 : Int32) = z3 12 from rfl, nw_y c1 x0 x1 (by omega) (by omega), Option.bind_some, if_pos rfl, kind3 h0 h5 hr hry hbw hv c1.1 c1.2]
        rfl
      have m7 : mX7_kindAt (a7_low z.2.1) (a7_order z.2.1) (a7_s z.2.1) (a7_thrown z.2.1) (a7_up z.2.1) (a7_weights z.2.1) (z3 x) = some (z3 (kiz (zC a) (zX a) (zY a) (zw a) x), z6 (vB (zC a) (zX a) (zY a) (zw a) x), o1, 0, z6 (vT (zC a) (zX a) (zY a) (zw a) x), w1) := by
        unfold mX7_kindAt
        rw [iw_y c1 x0 x1, Option.bind_some, gd1, Option.bind_some, if_neg (by decide), e1, Option.bind_some, kind7y h0 h5 s2 tx ty hr hry hbw e3 c1.1 c1.2 c2]
        rfl
      have E6 : ∃ σ1 o1, h_kindAt z.1 (z3 x) z.2.2.1 = some (0, σ1, o1) ∧ (o1 0 = o1 0) ∧ ((0 : Int32) = 0 → o1 = vp_updL z.2.2.1 0 (Int32.toInt64 (z3 (kiz (zC a) (zX a) (zY a) (zw a) x)))) ∧ ∀ τ, JZ z.1 τ → JZ σ1 τ := by
        apply Exists.intro
        apply Exists.intro
        refine ⟨?_, rfl, ?_, ?_⟩
        · unfold h_kindAt s6_kindAt
          rw [m6]
          rfl
        · exact fun _ => rfl
        · exact fun τ h => h
      have E7 : ∃ v1 τ1, s7_kindAt z.2.1 (z3 x) = some (v1, τ1) ∧ a7_thrown τ1 = 0 ∧ ((0 : Int32) = 0 → (Int32.toInt64 (z3 (kiz (zC a) (zX a) (zY a) (zw a) x))) = (Int32.toInt64) v1) ∧ ∀ σ, JZ σ z.2.1 → JZ σ τ1 := by
        apply Exists.intro
        apply Exists.intro
        refine ⟨?_, ?_, ?_, ?_⟩
        · unfold s7_kindAt
          rw [m7]
          rfl
        · rfl
        · exact fun _ => rfl
        · exact fun σ h => h
      obtain ⟨σ1, o1, e6, -, v6, j6⟩ := E6
      obtain ⟨w1, τ1, e7, t7, v7, j7⟩ := E7
      exact fin1 (Int32.toInt64) e6 e7 t7 (fun w => by rw [v6 w]; exact v7 w) (j7 _ (j6 _ h))
    · have m6 : mX6_kindAt (a6_present_denominator z.1) (a6_present_numerator z.1) (z3 x) = some (0, z3 (kiz (zC a) (zX a) (zY a) (zw a) x)) := by
        unfold mX6_kindAt
        rw [show (12 : Int32) = z3 12 from rfl, nw_y c1 x0 x1 (by omega) (by omega), Option.bind_some, if_pos rfl, kind3 h0 h5 hr hry hbw hv c1.1 c1.2]
        rfl
      have m7 : mX7_kindAt (a7_low z.2.1) (a7_order z.2.1) (a7_s z.2.1) (a7_thrown z.2.1) (a7_up z.2.1) (a7_weights z.2.1) (z3 x) = some (z3 (kiz (zC a) (zX a) (zY a) (zw a) x), a7_low z.2.1, o1, 0, a7_up z.2.1, w1) := by
        unfold mX7_kindAt
        rw [iw_y c1 x0 x1, Option.bind_some, gd1, Option.bind_some, if_neg (by decide), e1, Option.bind_some, kind7n h0 h5 s2 tx ty hr hry hbw e3 c1.1 c1.2 c2]
        rfl
      have E6 : ∃ σ1 o1, h_kindAt z.1 (z3 x) z.2.2.1 = some (0, σ1, o1) ∧ (o1 0 = o1 0) ∧ ((0 : Int32) = 0 → o1 = vp_updL z.2.2.1 0 (Int32.toInt64 (z3 (kiz (zC a) (zX a) (zY a) (zw a) x)))) ∧ ∀ τ, JZ z.1 τ → JZ σ1 τ := by
        apply Exists.intro
        apply Exists.intro
        refine ⟨?_, rfl, ?_, ?_⟩
        · unfold h_kindAt s6_kindAt
          rw [m6]
          rfl
        · exact fun _ => rfl
        · exact fun τ h => h
      have E7 : ∃ v1 τ1, s7_kindAt z.2.1 (z3 x) = some (v1, τ1) ∧ a7_thrown τ1 = 0 ∧ ((0 : Int32) = 0 → (Int32.toInt64 (z3 (kiz (zC a) (zX a) (zY a) (zw a) x))) = (Int32.toInt64) v1) ∧ ∀ σ, JZ σ z.2.1 → JZ σ τ1 := by
        apply Exists.intro
        apply Exists.intro
        refine ⟨?_, ?_, ?_, ?_⟩
        · unfold s7_kindAt
          rw [m7]
          rfl
        · rfl
        · exact fun _ => rfl
        · exact fun σ h => h
      obtain ⟨σ1, o1, e6, -, v6, j6⟩ := E6
      obtain ⟨w1, τ1, e7, t7, v7, j7⟩ := E7
      exact fin1 (Int32.toInt64) e6 e7 t7 (fun w => by rw [v6 w]; exact v7 w) (j7 _ (j6 _ h))
  · have m6 : mX6_kindAt (a6_present_denominator z.1) (a6_present_numerator z.1) (z3 x) = some (2, 0) := by
      unfold mX6_kindAt
      rw [show (12 : Int32) = z3 12 from rfl, nw_n c1 x0 x1 (by omega) (by omega)]
      rfl
    have m7 : mX7_kindAt (a7_low z.2.1) (a7_order z.2.1) (a7_s z.2.1) (a7_thrown z.2.1) (a7_up z.2.1) (a7_weights z.2.1) (z3 x) = some (0, a7_low z.2.1, a7_order z.2.1, 1, a7_up z.2.1, a7_weights z.2.1) := by
      unfold mX7_kindAt
      rw [iw_n c1 x0 x1]
      rfl
    have E6 : ∃ σ1 o1, h_kindAt z.1 (z3 x) z.2.2.1 = some (1, σ1, o1) ∧ (o1 0 = o1 0) ∧ ((1 : Int32) = 0 → o1 = vp_updL z.2.2.1 0 (0)) ∧ ∀ τ, JZ z.1 τ → JZ σ1 τ := by
      apply Exists.intro
      apply Exists.intro
      refine ⟨?_, rfl, ?_, ?_⟩
      · unfold h_kindAt s6_kindAt
        rw [m6]
        rfl
      · exact fun w => absurd w (by decide)
      · exact fun τ h => h
    have E7 : ∃ v1 τ1, s7_kindAt z.2.1 (z3 x) = some (v1, τ1) ∧ a7_thrown τ1 = 1 ∧ ((1 : Int32) = 0 → (0) = (Int32.toInt64) v1) ∧ ∀ σ, JZ σ z.2.1 → JZ σ τ1 := by
      apply Exists.intro
      apply Exists.intro
      refine ⟨?_, ?_, ?_, ?_⟩
      · unfold s7_kindAt
        rw [m7]
        rfl
      · rfl
      · exact fun w => absurd w (by decide)
      · exact fun σ h => h
    obtain ⟨σ1, o1, e6, -, v6, j6⟩ := E6
    obtain ⟨w1, τ1, e7, t7, v7, j7⟩ := E7
    exact fin1 (Int32.toInt64) e6 e7 t7 (fun w => by rw [v6 w]; exact v7 w) (j7 _ (j6 _ h))
