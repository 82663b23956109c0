/-! What is remembered: both sides. -/
def cpF (d s : Nat → Int32) : Nat → Int32 := itz (fun j f => upd f j.toNat (s j.toNat)) 5 0 d
theorem cpF_v (d s : Nat → Int32) {k : Nat} (h : k < 5) : cpF d s k = s k := by
  have e : k = 0 ∨ k = 1 ∨ k = 2 ∨ k = 3 ∨ k = 4 := by omega
  rcases e with rfl | rfl | rfl | rfl | rfl <;> rfl
theorem copy3 (c0 d0 m0 c d m : Int32) (w0 x0 y0 ws xs ys : Nat → Int32) : mX3_copyFrom c0 d0 m0 w0 x0 y0 c d m ws xs ys = some (c, d, m, cpF w0 ws, cpF x0 xs, cpF y0 ys) := by
  have H := runz (fun n j (a : (Nat → Int32) × (Nat → Int32) × (Nat → Int32)) => lX3_copyFrom_2 ws xs ys n (z3 j) a.1 a.2.1 a.2.2) (fun j a => (upd a.1 j.toNat (ws j.toNat), upd a.2.1 j.toNat (xs j.toNat), upd a.2.2 j.toNat (ys j.toNat))) (fun j _ => 0 ≤ j) 5 (fun a => a)
    (fun n j a hj hp => by
      have hp : 0 ≤ j := hp
      refine ⟨?_, by omega⟩
      have g := gix (n := 5) hp (by omega) (by decide)
      try dsimp only
      rw [lX3_copyFrom_2, if_neg (fun w => by have := (z3le (by omega) (by omega) (by omega) (by omega)).1 (l3_5 ▸ w); omega), if_neg g, if_neg g, if_neg g, if_neg g, if_neg g, if_neg g, z3nat (by omega) (by omega), l3_1, z3a])
    (fun n a hp => by
      try dsimp only
      rw [lX3_copyFrom_2, if_pos (by decide)])
    5 FU 0 (w0, x0, y0) (by omega) (by decide) (by omega)
  have H1 := H.1
  have e : itz (fun j (a : (Nat → Int32) × (Nat → Int32) × (Nat → Int32)) => (upd a.1 j.toNat (ws j.toNat), upd a.2.1 j.toNat (xs j.toNat), upd a.2.2 j.toNat (ys j.toNat))) 5 0 (w0, x0, y0) = (cpF w0 ws, cpF x0 xs, cpF y0 ys) := rfl
  unfold mX3_copyFrom
  rw [l3_0]
  rw [e] at H1
  have H2 : lX3_copyFrom_2 ws xs ys FU (z3 0) w0 x0 y0 = some (cpF w0 ws, cpF x0 xs, cpF y0 ys) := H1
  rw [H2]
  rfl
theorem N3.cp {a : AZ} {c d m : Int32} {ws xs ys : Nat → Int32} (w0 x0 y0 : Nat → Int32) (hO : OkZ a) (h : N3 a c d m ws xs ys) : N3 a c d m (cpF w0 ws) (cpF x0 xs) (cpF y0 ys) := by
  obtain ⟨h0, h5, -⟩ := hO
  obtain ⟨e1, e2, e3, hw, hx, hy⟩ := h
  refine ⟨e1, e2, e3, fun k k0 k1 => ?_, fun k k0 k1 => ?_, fun k k0 k1 => ?_⟩
  · rw [cpF_v _ _ (by omega)]
    exact hw k k0 k1
  · rw [cpF_v _ _ (by omega)]
    exact hx k k0 k1
  · rw [cpF_v _ _ (by omega)]
    exact hy k k0 k1
theorem N7.c {a : AZ} {f g : Nat → Int32} (hO : OkZ a) (h : N7 a f) (e : ∀ i, i < 18 → g i = f i) : N7 a g := by
  obtain ⟨h0, h5, -⟩ := hO
  obtain ⟨s0, s1, s2, tx, ty, tw⟩ := h
  refine ⟨by rw [e 0 (by omega), s0], by rw [e 1 (by omega), s1], by rw [e 2 (by omega), s2], fun k k0 k1 => ?_, fun k k0 k1 => ?_, fun k k0 k1 => ?_⟩
  · rw [e _ (by omega)]
    exact tx k k0 k1
  · rw [e _ (by omega)]
    exact ty k k0 k1
  · rw [e _ (by omega)]
    exact tw k k0 k1
/-- one place of the history -/
def Hist (q : AZ) (e : Nat) (kc km kd : Nat → Int32) (kw kx ky : Nat → Nat → Int32) (hi : Nat → Int32) : Prop := OkZ q ∧ N3 q (kc e) (kd e) (km e) (kw e) (kx e) (ky e) ∧ N7 q (fun i => hi (18 * e + i))
section HST
variable {kc km kd : Nat → Int32} {kw kx ky : Nat → Nat → Int32} {c d m : Int32} {ws xs ys : Nat → Int32}
theorem rem3_s {h : Int} (h0 : 0 ≤ h) (h1 : h < 10) : mX2_remember (z3 h) kc kd km kw kx ky c d m ws xs ys = some (z3 (h + 1), setN kc h.toNat c, setN kd h.toNat d, setN km h.toNat m, setN kw h.toNat (cpF (kw h.toNat) ws), setN kx h.toNat (cpF (kx h.toNat) xs), setN ky h.toNat (cpF (ky h.toNat) ys)) := by
  have e : h = 0 ∨ h = 1 ∨ h = 2 ∨ h = 3 ∨ h = 4 ∨ h = 5 ∨ h = 6 ∨ h = 7 ∨ h = 8 ∨ h = 9 := by omega
  unfold mX2_remember
  rw [if_pos (by rw [l3_10]; exact (z3lt (by omega) (by omega) (by omega) (by omega)).2 (by omega))]
  rcases e with rfl | rfl | rfl | rfl | rfl | rfl | rfl | rfl | rfl | rfl
  · rw [if_pos (by decide), copy3]; rfl
  · rw [if_neg (by decide), if_pos (by decide), copy3]; rfl
  · rw [if_neg (by decide), if_neg (by decide), if_pos (by decide), copy3]; rfl
  · rw [if_neg (by decide), if_neg (by decide), if_neg (by decide), if_pos (by decide), copy3]; rfl
  · rw [if_neg (by decide), if_neg (by decide), if_neg (by decide), if_neg (by decide), if_pos (by decide), copy3]; rfl
  · rw [if_neg (by decide), if_neg (by decide), if_neg (by decide), if_neg (by decide), if_neg (by decide), if_pos (by decide), copy3]; rfl
  · rw [if_neg (by decide), if_neg (by decide), if_neg (by decide), if_neg (by decide), if_neg (by decide), if_neg (by decide), if_pos (by decide), copy3]; rfl
  · rw [if_neg (by decide), if_neg (by decide), if_neg (by decide), if_neg (by decide), if_neg (by decide), if_neg (by decide), if_neg (by decide), if_pos (by decide), copy3]; rfl
  · rw [if_neg (by decide), if_neg (by decide), if_neg (by decide), if_neg (by decide), if_neg (by decide), if_neg (by decide), if_neg (by decide), if_neg (by decide), if_pos (by decide), copy3]; rfl
  · rw [if_neg (by decide), if_neg (by decide), if_neg (by decide), if_neg (by decide), if_neg (by decide), if_neg (by decide), if_neg (by decide), if_neg (by decide), if_neg (by decide), if_pos (by decide), copy3]; rfl
theorem rem3_f : ∃ kc1 kd1 km1 kw1 kx1 ky1, mX2_remember (z3 10) kc kd km kw kx ky c d m ws xs ys = some (z3 10, kc1, kd1, km1, kw1, kx1, ky1) ∧
    (∀ e, e < 9 → kc1 e = kc (e + 1) ∧ kd1 e = kd (e + 1) ∧ km1 e = km (e + 1) ∧ kw1 e = cpF (kw e) (kw (e + 1)) ∧ kx1 e = cpF (kx e) (kx (e + 1)) ∧ ky1 e = cpF (ky e) (ky (e + 1))) ∧
    kc1 9 = c ∧ kd1 9 = d ∧ km1 9 = m ∧ kw1 9 = cpF (kw 9) ws ∧ kx1 9 = cpF (kx 9) xs ∧ ky1 9 = cpF (ky 9) ys := by
  unfold mX2_remember
  rw [if_neg (by decide)]
  simp only [copy3, Option.bind_some]
  apply Exists.intro
  apply Exists.intro
  apply Exists.intro
  apply Exists.intro
  apply Exists.intro
  apply Exists.intro
  refine ⟨rfl, ?_, ?_⟩
  · intro e he
    have e9 : e = 0 ∨ e = 1 ∨ e = 2 ∨ e = 3 ∨ e = 4 ∨ e = 5 ∨ e = 6 ∨ e = 7 ∨ e = 8 := by omega
    rcases e9 with rfl | rfl | rfl | rfl | rfl | rfl | rfl | rfl | rfl <;> exact ⟨rfl, rfl, rfl, rfl, rfl, rfl⟩
  · exact ⟨rfl, rfl, rfl, rfl, rfl, rfl⟩
theorem rem7_in {h : Int} (h0 : 0 ≤ h) (h1 : h < 10) (s hi : Nat → Int32) : ∃ hi1, lX7_remember_52 (z3 h) s FU (z3 0) hi = some hi1 ∧ (∀ i, i < 18 → hi1 (18 * h.toNat + i) = s i) ∧ ∀ j, j < 18 * h.toNat → hi1 j = hi j := by
  obtain ⟨hi1, e1, p1, p2, p3⟩ := runr (fun n j (a : Nat → Int32) => lX7_remember_52 (z3 h) s n (z3 j) a) (fun j a => 0 ≤ j ∧ (∀ i : Nat, (i : Int) < j → a (18 * h.toNat + i) = s i) ∧ ∀ i, i < 18 * h.toNat → a i = hi i) 18 (fun a => a)
    (fun n j a hj hp => by
      obtain ⟨p1, p2, p3⟩ := hp
      refine ⟨upd a (18 * h.toNat + j.toNat) (s j.toNat), ?_, by omega, fun i hi => ?_, fun i hi => ?_⟩
      · rw [lX7_remember_52, if_neg (fun w => by have := (z3le (by omega) (by omega) (by omega) (by omega)).1 (l3_18 ▸ w); omega), if_neg (gix p1 (by omega) (by decide)), show (18 : Int32) = z3 18 from rfl, z3m, z3a, if_neg (gix (by omega) (by omega) (by decide)), z3nat (by omega) (by omega), z3nat (by omega) (by omega), l3_1, z3a, show (18 * h + j).toNat = 18 * h.toNat + j.toNat by omega]
      · by_cases w : (i : Int) = j
        · rw [show j.toNat = i by omega, upd_s]
        · rw [upd_n (by omega)]
          exact p2 i (by omega)
      · rw [upd_n (by omega)]
        exact p3 i hi)
    (fun n a hp => by
      rw [lX7_remember_52, if_pos (by decide)])
    18 FU 0 hi (by omega) (by decide) ⟨by omega, fun i hi => by omega, fun i _ => rfl⟩
  exact ⟨hi1, e1, fun i hi => p2 i (by omega), p3⟩
theorem rem7_sh (hi : Nat → Int32) : ∃ hi1, lX7_remember_12 FU (z3 18) hi = some hi1 ∧ (∀ i, i < 162 → hi1 i = hi (i + 18)) := by
  obtain ⟨hi1, e1, p1, p2, p3⟩ := runr (fun n j (a : Nat → Int32) => lX7_remember_12 n (z3 j) a) (fun j a => 18 ≤ j ∧ (∀ i : Nat, (i : Int) < j - 18 → a i = hi (i + 18)) ∧ ∀ i : Nat, j - 18 ≤ (i : Int) → a i = hi i) 180 (fun a => a)
    (fun n j a hj hp => by
      obtain ⟨p1, p2, p3⟩ := hp
      refine ⟨upd a (j - 18).toNat (a j.toNat), ?_, by omega, fun i hi => ?_, fun i hi => ?_⟩
      · rw [lX7_remember_12, if_neg (fun w => by have := (z3le (by omega) (by omega) (by omega) (by omega)).1 (l3_180 ▸ w); omega), if_neg (gix (by omega) (by omega) (by decide)), show (18 : Int32) = z3 18 from rfl, z3s, if_neg (gix (by omega) (by omega) (by decide)), z3nat (by omega) (by omega), z3nat (by omega) (by omega), l3_1, z3a]
      · by_cases w : (i : Int) = j - 18
        · rw [show (j - 18).toNat = i by omega, upd_s, p3 _ (by omega)]
          congr 1
          omega
        · rw [upd_n (by omega)]
          exact p2 i (by omega)
      · rw [upd_n (by omega)]
        exact p3 i (by omega))
    (fun n a hp => by
      rw [lX7_remember_12, if_pos (by decide)])
    162 FU 18 hi (by omega) (by decide) ⟨by omega, fun i hi => by omega, fun i _ => rfl⟩
  exact ⟨hi1, e1, fun i hi => p2 i (by omega)⟩
theorem rememb {hc ed : Int32} {hi s : Nat → Int32} {a : AZ} (hJ : JH hc kc km kd kw kx ky ed hi) (hO : OkZ a) (h3 : N3 a c d m ws xs ys) (h7 : N7 a s) :
    ∃ hc1 kc1 kd1 km1 kw1 kx1 ky1 ed1 hi1, mX2_remember hc kc kd km kw kx ky c d m ws xs ys = some (hc1, kc1, kd1, km1, kw1, kx1, ky1) ∧ mX7_remember ed hi s = some (ed1, hi1) ∧ JH hc1 kc1 km1 kd1 kw1 kx1 ky1 ed1 hi1 := by
  obtain ⟨h, q, h0, h1, rfl, rfl, hq⟩ := hJ
  by_cases hh : h = 10
  · subst hh
    obtain ⟨kc1, kd1, km1, kw1, kx1, ky1, e1, e2, e3, e4, e5, e6, e7, e8⟩ := rem3_f (kc := kc) (km := km) (kd := kd) (kw := kw) (kx := kx) (ky := ky) (c := c) (d := d) (m := m) (ws := ws) (xs := xs) (ys := ys)
    obtain ⟨hi1, f1, f2⟩ := rem7_sh hi
    obtain ⟨hi2, g1, g2, g3⟩ := rem7_in (h := 9) (by omega) (by omega) s hi1
    refine ⟨_, _, _, _, _, _, _, z3 10, hi2, e1, ?_, 10, fun e => if e < 9 then q (e + 1) else a, by omega, by omega, rfl, rfl, fun e n0 n1 => ?_⟩
    · unfold mX7_remember
      rw [if_pos (by decide), show (18 : Int32) = z3 18 from rfl, f1, Option.bind_some, show z3 10 - 1 = z3 9 from rfl, l3_0, g1]
      rfl
    · dsimp only
      by_cases w : e < 9
      · rw [if_pos w]
        obtain ⟨i1, i2, i3⟩ := hq (e + 1) (by omega) (by omega)
        obtain ⟨k1, k2, k3, k4, k5, k6⟩ := e2 e.toNat (by omega)
        rw [show (e + 1).toNat = e.toNat + 1 by omega] at i2 i3
        refine ⟨i1, ?_, ?_⟩
        · rw [k1, k2, k3, k4, k5, k6]
          exact i2.cp _ _ _ i1
        · apply i3.c i1
          intro i hi18
          rw [g3 _ (by show _ < 18 * 9; omega), f2 _ (by omega), show 18 * e.toNat + i + 18 = 18 * (e.toNat + 1) + i by omega]
      · have : e = 9 := by omega
        subst this
        rw [if_neg (by decide)]
        refine ⟨hO, ?_, ?_⟩
        · show N3 a (kc1 9) (kd1 9) (km1 9) (kw1 9) (kx1 9) (ky1 9)
          rw [e3, e4, e5, e6, e7, e8]
          exact h3.cp _ _ _ hO
        · apply h7.c hO
          intro i hi18
          exact g2 i hi18
  · obtain ⟨hi2, g1, g2, g3⟩ := rem7_in (h := h) h0 (by omega) s hi
    refine ⟨_, _, _, _, _, _, _, z3 (h + 1), hi2, rem3_s h0 (by omega), ?_, h + 1, fun e => if e < h then q e else a, by omega, by omega, rfl, rfl, fun e n0 n1 => ?_⟩
    · unfold mX7_remember
      rw [if_neg (fun w => hh ((z3eq (by omega) (by omega) (by omega) (by omega)).1 (Eq.trans w l3_10))), l3_0, g1, l3_1, z3a]
      rfl
    · dsimp only
      by_cases w : e < h
      · rw [if_pos w]
        obtain ⟨i1, i2, i3⟩ := hq e n0 w
        have ne : e.toNat ≠ h.toNat := by omega
        refine ⟨i1, ?_, ?_⟩
        · unfold setN
          rw [if_neg ne, if_neg ne, if_neg ne, if_neg ne, if_neg ne, if_neg ne]
          exact i2
        · apply i3.c i1
          intro i hi18
          exact g3 _ (by omega)
      · have : e = h := by omega
        subst this
        rw [if_neg w]
        refine ⟨hO, ?_, ?_⟩
        · unfold setN
          rw [if_pos rfl, if_pos rfl, if_pos rfl, if_pos rfl, if_pos rfl, if_pos rfl]
          exact h3.cp _ _ _ hO
        · apply h7.c hO
          intro i hi18
          exact g2 i hi18
end HST
