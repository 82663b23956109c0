/-! How a step ends; the first steps. -/
theorem fin0 {α : Type} [DecidableEq α] {A : Option (α × S6)} {B : Option (α × S7)} {v : α} {σ : S6} {τ : S7} {o : Nat → Int64} {d : Nat → UInt64} (hA : A = some (v, σ)) (hB : B = some (v, τ)) (hJ : JZ σ τ) :
    ∃ z1, (A.bind fun a => B.bind fun b => if a.1 = b.1 then some (a.2, b.2, o, d) else none) = some z1 ∧ JS z1 := by
  subst hA
  subst hB
  exact ⟨(σ, τ, o, d), if_pos rfl, hJ⟩
theorem fin1 {β : Type} {H : Option (Int32 × S6 × (Nat → Int64))} {B : Option (β × S7)} {v : β} {k : Int32} {σ : S6} {τ : S7} {o : Nat → Int64} {d : Nat → UInt64} (conv : β → Int64) (hH : H = some (k, σ, o)) (hB : B = some (v, τ)) (ht : a7_thrown τ = k) (hv : k = 0 → o 0 = conv v) (hJ : JZ σ τ) :
    ∃ z1, (H.bind fun a => B.bind fun b => (s7_thrown b.2).bind fun t => if t.1 = a.1 then if a.1 = 0 then if a.2.2 0 = conv b.1 then some (a.2.1, t.2, a.2.2, d) else none else some (a.2.1, t.2, a.2.2, d) else none) = some z1 ∧ JS z1 := by
  subst hH
  subst hB
  subst ht
  refine ⟨(σ, τ, o, d), ?_, hJ⟩
  show (if a7_thrown τ = a7_thrown τ then if a7_thrown τ = 0 then if o 0 = conv v then some (σ, τ, o, d) else none else some (σ, τ, o, d) else none) = some (σ, τ, o, d)
  rw [if_pos rfl]
  by_cases w : a7_thrown τ = 0
  · rw [if_pos w, if_pos (hv w)]
  · rw [if_neg w]
/-- a loop up to where it may leave -/
theorem skipr {α β : Type} (L : Nat → Int → α → β) (P : Int → α → Prop) (t : Int)
    (hs : ∀ (n : Nat) (j : Int) (a : α), j < t → P j a → ∃ a1, L (n + 1) j a = L n (j + 1) a1 ∧ P (j + 1) a1) :
    ∀ (m n : Nat) (j : Int) (a : α), j + m = t → m < n → P j a → ∃ n1 a1, L n j a = L (n1 + 1) t a1 ∧ P t a1 := by
  intro m
  induction m with
  | zero =>
    intro n j a h1 h2 h3
    obtain ⟨n, rfl⟩ : ∃ q, n = q + 1 := ⟨n - 1, by omega⟩
    have e : j = t := by omega
    subst e
    exact ⟨n, a, rfl, h3⟩
  | succ m ih =>
    intro n j a h1 h2 h3
    obtain ⟨n, rfl⟩ : ∃ q, n = q + 1 := ⟨n - 1, by omega⟩
    obtain ⟨a1, e1, e2⟩ := hs n j a (by omega) h3
    rw [e1]
    exact ih n (j + 1) a1 (by omega) (by omega) e2
section FND
variable {C x : Int} {X : Int → Int} {xs s : Nat → Int32}
theorem find3_y (h0 : 0 ≤ C) (h5 : C ≤ 5) (hx : En 0 C xs X) (hr : Rz C (-9) 9 X) (hi : Inj C X) {k : Int} (k0 : 0 ≤ k) (k1 : k < C) (h : X k = x) : mX3_find (z3 C) xs (z3 x) = some (z3 k) := by
  have rk := hr k k0 k1
  obtain ⟨n, -, e, -⟩ := skipr (fun n j (_ : Unit) => lX3_find_2 (z3 x) (z3 C) xs n (z3 j)) (fun j _ => 0 ≤ j) k
    (fun n j _ hj hp => by
      have hp : 0 ≤ j := hp
      have e1 := hx.z hp (show j < C by omega)
      have r1 := hr j hp (by omega)
      have ne : X j ≠ x := fun w => by
        have := hi j k hp (by omega) k0 k1 (by omega)
        omega
      refine ⟨(), ?_, by omega⟩
      simp (disch := omega) only [lX3_find_2, l3_0, l3_1, l3_2, l3_3, l3_4, l3_5, l3_8, l3_9, l3_10, l3_12, l3_13, l3_14, l3_18, l3_19, l3_20, l3_24, l3_31, l3_32, l3_33, l3_45, l3_47, l3_48, l3_57, l3_58, l3_59, l3_63, l3_94, l3_97, l3_120, l3_122, l3_180, l3_200, l3_255, l3_320, l3_400, z3a, z3s, z3m, z3n, z3le, z3lt, z3eq, z3nat, z364, if_neg, xOfz, Option.bind_some, e1])
    k.toNat FU 0 () (by omega) (fuel (by omega)) (by omega)
  have e1 := hx.z k0 k1
  unfold mX3_find
  rw [l3_0, e]
  simp (disch := omega) only [lX3_find_2, l3_0, l3_1, l3_2, l3_3, l3_4, l3_5, l3_8, l3_9, l3_10, l3_12, l3_13, l3_14, l3_18, l3_19, l3_20, l3_24, l3_31, l3_32, l3_33, l3_45, l3_47, l3_48, l3_57, l3_58, l3_59, l3_63, l3_94, l3_97, l3_120, l3_122, l3_180, l3_200, l3_255, l3_320, l3_400, z3a, z3s, z3m, z3n, z3le, z3lt, z3eq, z3nat, z364, if_neg, if_pos, xOfz, Option.bind_some, e1]
  rfl
theorem find3_n (h0 : 0 ≤ C) (h5 : C ≤ 5) (hx : En 0 C xs X) (hr : Rz C (-9) 9 X) (h : ∀ k, 0 ≤ k → k < C → X k ≠ x) (x0 : -2147483648 ≤ x) (x1 : x < 2147483648) : mX3_find (z3 C) xs (z3 x) = some (-1) := by
  obtain ⟨n, -, e, -⟩ := skipr (fun n j (_ : Unit) => lX3_find_2 (z3 x) (z3 C) xs n (z3 j)) (fun j _ => 0 ≤ j) C
    (fun n j _ hj hp => by
      have hp : 0 ≤ j := hp
      have e1 := hx.z hp (show j < C by omega)
      have r1 := hr j hp (by omega)
      have ne : X j ≠ x := h j hp hj
      refine ⟨(), ?_, by omega⟩
      simp (disch := omega) only [lX3_find_2, l3_0, l3_1, l3_2, l3_3, l3_4, l3_5, l3_8, l3_9, l3_10, l3_12, l3_13, l3_14, l3_18, l3_19, l3_20, l3_24, l3_31, l3_32, l3_33, l3_45, l3_47, l3_48, l3_57, l3_58, l3_59, l3_63, l3_94, l3_97, l3_120, l3_122, l3_180, l3_200, l3_255, l3_320, l3_400, z3a, z3s, z3m, z3n, z3le, z3lt, z3eq, z3nat, z364, if_neg, xOfz, Option.bind_some, e1])
    C.toNat FU 0 () (by omega) (fuel (by omega)) (by omega)
  unfold mX3_find
  rw [l3_0, e]
  simp (disch := omega) only [lX3_find_2, z3le, if_pos, Option.bind_some]
  rfl
theorem find7_y (h0 : 0 ≤ C) (h5 : C ≤ 5) (hs2 : s 2 = z3 C) (hx : En 3 C s X) (hr : Rz C (-9) 9 X) (hi : Inj C X) {k : Int} (k0 : 0 ≤ k) (k1 : k < C) (h : X k = x) : mX7_pointWith s (z3 x) = some (z3 k) := by
  have rk := hr k k0 k1
  obtain ⟨n, -, e, -⟩ := skipr (fun n j (_ : Unit) => lX7_pointWith_2 (z3 x) s n (z3 j)) (fun j _ => 0 ≤ j) k
    (fun n j _ hj hp => by
      have hp : 0 ≤ j := hp
      have e1 := hx j hp (show j < C by omega)
      have r1 := hr j hp (by omega)
      have ne : X j ≠ x := fun w => by
        have := hi j k hp (by omega) k0 k1 (by omega)
        omega
      refine ⟨(), ?_, by omega⟩
      simp (disch := omega) only [lX7_pointWith_2, l3_0, l3_1, l3_2, l3_3, l3_4, l3_5, l3_8, l3_9, l3_10, l3_12, l3_13, l3_14, l3_18, l3_19, l3_20, l3_24, l3_31, l3_32, l3_33, l3_45, l3_47, l3_48, l3_57, l3_58, l3_59, l3_63, l3_94, l3_97, l3_120, l3_122, l3_180, l3_200, l3_255, l3_320, l3_400, z3a, z3s, z3m, z3n, z3le, z3lt, z3eq, z3nat, z364, Int.reduceToNat, hs2, if_neg, e1])
    k.toNat FU 0 () (by omega) (fuel (by omega)) (by omega)
  have e1 := hx k k0 k1
  unfold mX7_pointWith
  rw [l3_0, e]
  simp (disch := omega) only [lX7_pointWith_2, l3_0, l3_1, l3_2, l3_3, l3_4, l3_5, l3_8, l3_9, l3_10, l3_12, l3_13, l3_14, l3_18, l3_19, l3_20, l3_24, l3_31, l3_32, l3_33, l3_45, l3_47, l3_48, l3_57, l3_58, l3_59, l3_63, l3_94, l3_97, l3_120, l3_122, l3_180, l3_200, l3_255, l3_320, l3_400, z3a, z3s, z3m, z3n, z3le, z3lt, z3eq, z3nat, z364, Int.reduceToNat, hs2, if_neg, if_pos, e1]
  rfl
theorem find7_n (h0 : 0 ≤ C) (h5 : C ≤ 5) (hs2 : s 2 = z3 C) (hx : En 3 C s X) (hr : Rz C (-9) 9 X) (h : ∀ k, 0 ≤ k → k < C → X k ≠ x) (x0 : -2147483648 ≤ x) (x1 : x < 2147483648) : mX7_pointWith s (z3 x) = some (-1) := by
  obtain ⟨n, -, e, -⟩ := skipr (fun n j (_ : Unit) => lX7_pointWith_2 (z3 x) s n (z3 j)) (fun j _ => 0 ≤ j) C
    (fun n j _ hj hp => by
      have hp : 0 ≤ j := hp
      have e1 := hx j hp (show j < C by omega)
      have r1 := hr j hp (by omega)
      have ne : X j ≠ x := h j hp hj
      refine ⟨(), ?_, by omega⟩
      simp (disch := omega) only [lX7_pointWith_2, l3_0, l3_1, l3_2, l3_3, l3_4, l3_5, l3_8, l3_9, l3_10, l3_12, l3_13, l3_14, l3_18, l3_19, l3_20, l3_24, l3_31, l3_32, l3_33, l3_45, l3_47, l3_48, l3_57, l3_58, l3_59, l3_63, l3_94, l3_97, l3_120, l3_122, l3_180, l3_200, l3_255, l3_320, l3_400, z3a, z3s, z3m, z3n, z3le, z3lt, z3eq, z3nat, z364, Int.reduceToNat, hs2, if_neg, e1])
    C.toNat FU 0 () (by omega) (fuel (by omega)) (by omega)
  unfold mX7_pointWith
  rw [l3_0, e]
  simp (disch := omega) only [lX7_pointWith_2, l3_0, l3_1, l3_2, l3_3, l3_4, l3_5, l3_8, l3_9, l3_10, l3_12, l3_13, l3_14, l3_18, l3_19, l3_20, l3_24, l3_31, l3_32, l3_33, l3_45, l3_47, l3_48, l3_57, l3_58, l3_59, l3_63, l3_94, l3_97, l3_120, l3_122, l3_180, l3_200, l3_255, l3_320, l3_400, z3a, z3s, z3m, z3n, z3le, z3lt, z3eq, z3nat, z364, Int.reduceToNat, hs2, if_neg, if_pos, Option.bind_some]
end FND
theorem z3m1 {k : Int} (k0 : 0 ≤ k) (k1 : k < 100) : ¬ z3 k = -1 := by
  rw [show (-1 : Int32) = z3 (-1) from rfl, z3eq (by omega) (by omega) (by omega) (by omega)]
  omega
theorem ok_2 : SOK q_2 := by
  intro u z h
  have e6 : s6_errorKind z.1 = some (a6_text_faultKind z.1, z.1) := rfl
  have e7 : s7_errorKind z.2.1 = some (a7_errorKind z.2.1, thr7 z.2.1 0) := rfl
  rw [← h.2.2.2.1.1] at e7
  exact fin0 e6 e7 h
theorem ok_3 : SOK q_3 := by
  intro u z h
  have e6 : s6_errorPosition z.1 = some (a6_text_faultPosition z.1, z.1) := rfl
  have e7 : s7_errorPosition z.2.1 = some (a7_errorPosition z.2.1, thr7 z.2.1 0) := rfl
  rw [← h.2.2.2.1.2] at e7
  exact fin0 e6 e7 h
theorem ok_4 : SOK q_4 := by
  intro u z h
  obtain ⟨a, hO, h6, h7⟩ := h.1
  exact ⟨_, qq_4 u z (h6.1.1.trans h7.2.2.1.symm), h⟩
theorem ok_5 : SOK q_5 := by
  intro u z h
  obtain ⟨a, hO, h6, h7⟩ := h.1
  exact ⟨_, qq_5 u z (h6.1.2.2.1.trans h7.1.symm), h⟩
theorem ok_6 : SOK q_6 := by
  intro u z h
  obtain ⟨a, hO, h6, h7⟩ := h.1
  exact ⟨_, qq_6 u z (h6.1.2.1.trans h7.2.1.symm), h⟩
theorem ok_8 : SOK q_8 := by
  intro u z h
  obtain ⟨a, ⟨h0, h5, m0, m1, d0, d1, hr, hry, hrw, hi⟩, ⟨⟨hc, -, -, -, hx, -⟩, -⟩, ⟨-, -, s2, tx, -, -⟩⟩ := h.1
  obtain ⟨x, x0, x1, hu⟩ := ex3 (u 1)
  unfold q_8
  rw [hu]
  by_cases c1 : -12 ≤ x ∧ x ≤ 12
  · by_cases c2 : ∃ k, 0 ≤ k ∧ k < zC a ∧ zX a k = x
    · obtain ⟨k, k0, k1, ke⟩ := c2
      have m6 : mX6_pointAt (a6_present_nodes_count z.1) (a6_present_nodes_xs z.1) (z3 x) = some (0, z3 k) := by
        unfold mX6_pointAt
        rw [hc, show (12 : Int32) = z3 12 from rfl, nw_y c1 x0 x1 (by omega) (by omega), Option.bind_some, if_pos rfl, find3_y h0 h5 hx hr hi k0 k1 ke, Option.bind_some, if_neg (z3m1 k0 (by omega))]
      have m7 : mX7_pointAt (a7_s z.2.1) (a7_thrown z.2.1) (z3 x) = some (z3 k, 0) := by
        unfold mX7_pointAt
        rw [iw_y c1 x0 x1, Option.bind_some, find7_y h0 h5 s2 tx hr hi k0 k1 ke, Option.bind_some, if_neg (z3m1 k0 (by omega))]
        rfl
      refine fin1 Int32.toInt64 (k := 0) (σ := z.1) (τ := thr7 z.2.1 0) (v := z3 k) (o := vp_updL z.2.2.1 0 (Int32.toInt64 (z3 k))) ?_ ?_ rfl (fun _ => rfl) h
      · unfold h_pointAt s6_pointAt
        rw [m6]
        rfl
      · unfold s7_pointAt
        rw [m7]
        rfl
    · have c2 : ∀ k, 0 ≤ k → k < zC a → zX a k ≠ x := fun k k0 k1 e => c2 ⟨k, k0, k1, e⟩
      have m6 : mX6_pointAt (a6_present_nodes_count z.1) (a6_present_nodes_xs z.1) (z3 x) = some (4, 0) := by
        unfold mX6_pointAt
        rw [hc, show (12 : Int32) = z3 12 from rfl, nw_y c1 x0 x1 (by omega) (by omega), Option.bind_some, if_pos rfl, find3_n h0 h5 hx hr c2 x0 x1]
        rfl
      have m7 : mX7_pointAt (a7_s z.2.1) (a7_thrown z.2.1) (z3 x) = some (0, 2) := by
        unfold mX7_pointAt
        rw [iw_y c1 x0 x1, Option.bind_some, find7_n h0 h5 s2 tx hr c2 x0 x1]
        rfl
      refine fin1 Int32.toInt64 (k := 2) (σ := z.1) (τ := thr7 z.2.1 2) (v := 0) (o := z.2.2.1) ?_ ?_ rfl (fun w => absurd w (by decide)) h
      · unfold h_pointAt s6_pointAt
        rw [m6]
        rfl
      · unfold s7_pointAt
        rw [m7]
        rfl
  · have m6 : mX6_pointAt (a6_present_nodes_count z.1) (a6_present_nodes_xs z.1) (z3 x) = some (2, 0) := by
      unfold mX6_pointAt
      rw [show (12 : Int32) = z3 12 from rfl, nw_n c1 x0 x1 (by omega) (by omega)]
      rfl
    have m7 : mX7_pointAt (a7_s z.2.1) (a7_thrown z.2.1) (z3 x) = some (0, 1) := by
      unfold mX7_pointAt
      rw [iw_n c1 x0 x1, Option.bind_some]
      by_cases c2 : ∃ k, 0 ≤ k ∧ k < zC a ∧ zX a k = x
      · obtain ⟨k, k0, k1, ke⟩ := c2
        rw [find7_y h0 h5 s2 tx hr hi k0 k1 ke, Option.bind_some, if_neg (z3m1 k0 (by omega))]
        rfl
      · have c2 : ∀ k, 0 ≤ k → k < zC a → zX a k ≠ x := fun k k0 k1 e => c2 ⟨k, k0, k1, e⟩
        rw [find7_n h0 h5 s2 tx hr c2 x0 x1]
        rfl
    refine fin1 Int32.toInt64 (k := 1) (σ := z.1) (τ := thr7 z.2.1 1) (v := 0) (o := z.2.2.1) ?_ ?_ rfl (fun w => absurd w (by decide)) h
    · unfold h_pointAt s6_pointAt
      rw [m6]
      rfl
    · unfold s7_pointAt
      rw [m7]
      rfl
