/-! What is remembered: both sides. -/
def cpF (d s : Nat → Int32) : Nat → Int32 := itz (fun j f => upd f j.toNat (s j.toNat)) 5 0 d
theorem cpF_v (d s : Nat → Int32) {k : Nat} (h : k < 5) : cpF d s k = s k := by
  have e : k = 0 ∨ k = 1 ∨ k = 2 ∨ k = 3 ∨ k = 4 := by omega
  rcases e with rfl | rfl | rfl | rfl | rfl <;> rfl
theorem copy3 (c0 d0 m0 c d m : Int32) (w0 x0 y0 ws xs ys : Nat → Int32) : mX3_copyFrom c0 d0 m0 w0 x0 y0 c d m ws xs ys = some (c, d, m, cpF w0 ws, cpF x0 xs, cpF y0 ys) := by
  have H := runz (fun n j (a : (Nat → Int32) × (Nat → Int32) × (Nat → Int32)) => lX3_copyFrom_2 ws xs ys n (z3 j) a.1 a.2.1 a.2.2) (fun j a => (upd a.1 j.toNat (ws j.toNat), upd a.2.1 j.toNat (xs j.toNat), upd a.2.2 j.toNat (ys j.toNat))) (fun j _ => 0 ≤ j) 5 (fun a => a)
    (fun n j a hj hp => by
      have hp : 0 ≤ j := hp
      refine ⟨?_, by omega⟩
      have g := gix (n := 5) hp (by omega) (by decide)
      try dsimp only
      rw [lX3_copyFrom_2, if_neg (fun w => by have := (z3le (by omega) (by omega) (by omega) (by omega)).1 (l3_5 ▸ w); omega), if_neg g, if_neg g, if_neg g, if_neg g, if_neg g, if_neg g, z3nat (by omega) (by omega), l3_1, z3a])
    (fun n a hp => by
      try dsimp only
      rw [lX3_copyFrom_2, if_pos (by decide)])
    5 FU 0 (w0, x0, y0) (by omega) (by decide) (by omega)
  have H1 := H.1
  have e : itz (fun j (a : (Nat → Int32) × (Nat → Int32) × (Nat → Int32)) => (upd a.1 j.toNat (ws j.toNat), upd a.2.1 j.toNat (xs j.toNat), upd a.2.2 j.toNat (ys j.toNat))) 5 0 (w0, x0, y0) = (cpF w0 ws, cpF x0 xs, cpF y0 ys) := rfl
  unfold mX3_copyFrom
  rw [l3_0]
  rw [e] at H1
  have H2 : lX3_copyFrom_2 ws xs ys FU (z3 0) w0 x0 y0 = some (cpF w0 ws, cpF x0 xs, cpF y0 ys) := H1
  rw [H2]
  rfl
theorem N3.cp {a : AZ} {c d m : Int32} {ws xs ys : Nat → Int32} (w0 x0 y0 : Nat → Int32) (hO : OkZ a) (h : N3 a c d m ws xs ys) : N3 a c d m (cpF w0 ws) (cpF x0 xs) (cpF y0 ys) := by
  obtain ⟨h0, h5, -⟩ := hO
  obtain ⟨e1, e2, e3, hw, hx, hy⟩ := h
  refine ⟨e1, e2, e3, fun k k0 k1 => ?_, fun k k0 k1 => ?_, fun k k0 k1 => ?_⟩
  · rw [cpF_v _ _ (by omega)]
    exact hw k k0 k1
  · rw [cpF_v _ _ (by omega)]
    exact hx k k0 k1
  · rw [cpF_v _ _ (by omega)]
    exact hy k k0 k1
theorem N7.c {a : AZ} {f g : Nat → Int32} (hO : OkZ a) (h : N7 a f) (e : ∀ i, i < 18 → g i = f i) : N7 a g := by
  obtain ⟨h0, h5, -⟩ := hO
  obtain ⟨s0, s1, s2, tx, ty, tw⟩ := h
  refine ⟨by rw [e 0 (by omega), s0], by rw [e 1 (by omega), s1], by rw [e 2 (by omega), s2], fun k k0 k1 => ?_, fun k k0 k1 => ?_, fun k k0 k1 => ?_⟩
  · rw [e _ (by omega)]
    exact tx k k0 k1
  · rw [e _ (by omega)]
    exact ty k k0 k1
  · rw [e _ (by omega)]
    exact tw k k0 k1
/-- one place of the history -/
def Hist (q : AZ) (e : Nat) (kc km kd : Nat → Int32) (kw kx ky : Nat → Nat → Int32) (hi : Nat → Int32) : Prop := OkZ q ∧ N3 q (kc e) (kd e) (km e) (kw e) (kx e) (ky e) ∧ N7 q (fun i => hi (18 * e + i))
section HST
variable {kc km kd : Nat → Int32} {kw kx ky : Nat → Nat → Int32} {c d m : Int32} {ws xs ys : Nat → Int32}
theorem rem3_s {h : Int} (h0 : 0 ≤ h) (h1 : h < 10) : mX2_remember (z3 h) kc kd km kw kx ky c d m ws xs ys = some (z3 (h + 1), setN kc h.toNat c, setN kd h.toNat d, setN km h.toNat m, setN kw h.toNat (cpF (kw h.toNat) ws), setN kx h.toNat (cpF (kx h.toNat) xs), setN ky h.toNat (cpF (ky h.toNat) ys)) := by
  have e : h = 0 ∨ h = 1 ∨ h = 2 ∨ h = 3 ∨ h = 4 ∨ h = 5 ∨ h = 6 ∨ h = 7 ∨ h = 8 ∨ h = 9 := by omega
  unfold mX2_remember
  rw [if_pos (by rw [l3_10]; exact (z3lt (by omega) (by omega) (by omega) (by omega)).2 (by omega))]
  rcases e with rfl | rfl | rfl | rfl | rfl | rfl | rfl | rfl | rfl | rfl
  · rw [if_pos (by decide), copy3]; rfl
  · rw [if_neg (by decide), if_pos (by decide), copy3]; rfl
  · rw [if_neg (by decide), if_neg (by decide), if_pos (by decide), copy3]; rfl
  · rw [if_neg (by decide), if_neg (by decide), if_neg (by decide), if_pos (by decide), copy3]; rfl
  · rw [if_neg (by decide), if_neg (by decide), if_neg (by decide), if_neg (by decide), if_pos (by decide), copy3]; rfl
  · rw [if_neg (by decide), if_neg (by decide), if_neg (by decide), if_neg (by decide), if_neg (by decide), if_pos (by decide), copy3]; rfl
  · rw [if_neg (by decide), if_neg (by decide), if_neg (by decide), if_neg (by decide), if_neg (by decide), if_neg (by decide), if_pos (by decide), copy3]; rfl
  · rw [if_neg (by decide), if_neg (by decide), if_neg (by decide), if_neg (by decide), if_neg (by decide), if_neg (by decide), if_neg (by decide), if_pos (by decide), copy3]; rfl
  · rw [if_neg (by decide), if_neg (by decide), if_neg (by decide), if_neg (by decide), if_neg (by decide), if_neg (by decide), if_neg (by decide), if_neg (by decide), if_pos (by decide), copy3]; rfl
  · rw [if_neg (by decide), if_neg (by decide), if_neg (by decide), if_neg (by decide), if_neg (by decide), if_neg (by decide), if_neg (by decide), if_neg (by decide), if_neg (by decide), if_pos (by decide), copy3]; rfl
theorem rem3_f : ∃ kc1 kd1 km1 kw1 kx1 ky1, mX2_remember (z3 10) kc kd km kw kx ky c d m ws xs ys = some (z3 10, kc1, kd1, km1, kw1, kx1, ky1) ∧
    (∀ e, e < 9 → kc1 e = kc (e + 1) ∧ kd1 e = kd (e + 1) ∧ km1 e = km (e + 1) ∧ kw1 e = cpF (kw e) (kw (e + 1)) ∧ kx1 e = cpF (kx e) (kx (e + 1)) ∧ ky1 e = cpF (ky e) (ky (e + 1))) ∧
    kc1 9 = c ∧ kd1 9 = d ∧ km1 9 = m ∧ kw1 9 = cpF (kw 9) ws ∧ kx1 9 = cpF (kx 9) xs ∧ ky1 9 = cpF (ky 9) ys := by
  unfold mX2_remember
  rw [if_neg (by decide)]
  simp only [copy3, Option.bind_some]
  apply Exists.intro
  apply Exists.intro
  apply Exists.intro
  apply Exists.intro
  apply Exists.intro
  apply Exists.intro
  refine ⟨rfl, ?_, ?_⟩
  · intro e he
    have e9 : e = 0 ∨ e = 1 ∨ e = 2 ∨ e = 3 ∨ e = 4 ∨ e = 5 ∨ e = 6 ∨ e = 7 ∨ e = 8 := by omega
    rcases e9 with rfl | rfl | rfl | rfl | rfl | rfl | rfl | rfl | rfl <;> exact ⟨rfl, rfl, rfl, rfl, rfl, rfl⟩
  · exact ⟨rfl, rfl, rfl, rfl, rfl, rfl⟩
end HST
