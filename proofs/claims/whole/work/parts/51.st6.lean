/-! feed, written, isAlternating. -/
theorem z3u {v : Int} (h0 : 0 ≤ v) (h1 : v < 65536) : (Int32.toUInt32 (z3 v)).toNat = v.toNat := by
  show (BitVec.ofInt 32 v).toNat = v.toNat
  rw [BitVec.toNat_ofInt]
  omega
theorem z3ch {v : Int} (h0 : 0 ≤ v) (h1 : v < 65536) : (Int32.toUInt32 (z3 v) % 65536).toInt32 = z3 v := by
  have e := z3u h0 h1
  have : Int32.toUInt32 (z3 v) % 65536 = Int32.toUInt32 (z3 v) := by
    apply UInt32.toNat_inj.1
    rw [UInt32.toNat_mod, e]
    show v.toNat % 65536 = v.toNat
    omega
  rw [this]
  rfl
theorem z3nar {v : Int} (h0 : 0 ≤ v) (h1 : v < 65536) : vp_nar .char (z3 v) = z3 v := by
  have e := z3u h0 h1
  rw [vp_nar_char]
  have : (Int32.toUInt32 (z3 v)).toUInt16.toUInt32 = Int32.toUInt32 (z3 v) := by
    apply UInt32.toNat_inj.1
    rw [UInt16.toNat_toUInt32, UInt32.toNat_toUInt16, e]
    omega
  rw [this]
  rfl
theorem and255 (x : Int32) : ∃ v : Int, 0 ≤ v ∧ v < 256 ∧ x &&& 255 = z3 v := by
  have h : (x.toBitVec &&& 255#32).toNat < 256 := by
    rw [BitVec.toNat_and]
    exact Nat.lt_of_le_of_lt Nat.and_le_right (by decide)
  refine ⟨(x &&& 255).toInt, ?_, ?_, (z3i _).symm⟩
  · show 0 ≤ (x.toBitVec &&& 255#32).toInt
    rw [BitVec.toInt_eq_toNat_of_lt (by omega)]
    omega
  · show (x.toBitVec &&& 255#32).toInt < 256
    rw [BitVec.toInt_eq_toNat_of_lt (by omega)]
    omega
def byz (k : Int32) (j : Int) : Int32 := ((k.toUInt32 >>> (Int32.toUInt32 (z3 (24 - 8 * j)) &&& Int32.toUInt32 31)).toInt32) &&& 255
def apz (k : Int32) (b : Int) (m : Nat) (f : Nat → Int32) : Nat → Int32 := itz (fun j f => upd f (b + j).toNat (byz k j)) m 0 f
theorem append3 (k : Int32) (f : Nat → Int32) {b : Int} (b0 : 0 ≤ b) (b1 : b ≤ 396) : mX5_append f (z3 b) k = some (apz k b 4 f, z3 (b + 4)) := by
  have H := runz (fun n j (a : Nat → Int32) => lX5_append_3 k n (z3 (24 - 8 * j)) a (z3 (b + j))) (fun j f => upd f (b + j).toNat (byz k j)) (fun j _ => 0 ≤ j) 4 (fun a => (a, z3 (b + 4)))
    (fun n j a hj hp => by
      have hp : 0 ≤ j := hp
      refine ⟨?_, by omega⟩
      have g1 : ¬ z3 (24 - 8 * j) < 0 := fun w => by have := (z3lt (by omega) (by omega) (by omega) (by omega)).1 (l3_0 ▸ w); omega
      have g2 : ¬ (400 : Int32) ≤ z3 (b + j) := fun w => by have := (z3le (by omega) (by omega) (by omega) (by omega)).1 (l3_400 ▸ w); omega
      rw [lX5_append_3, if_neg g1, if_neg g2, if_neg (gix (by omega) (by omega) (by decide)), z3nat (by omega) (by omega), show (-8 : Int32) = z3 (-8) from rfl, l3_1, z3a, z3a, show (24 : Int) - 8 * j + -8 = 24 - 8 * (j + 1) by omega, Int.add_assoc b j 1]
      rfl)
    (fun n a hp => by
      rw [lX5_append_3, if_pos (by decide)])
    4 FU 0 f (by omega) (by decide) (by omega)
  have H1 := H.1
  rw [show (24 : Int) - 8 * 0 = 24 by omega, show b + 0 = b by omega] at H1
  unfold mX5_append
  rw [l3_24, H1]
  rfl
theorem append7 (k : Int32) (f : Nat → Int32) {b : Int} (b0 : 0 ≤ b) (b1 : b ≤ 396) : mX7_append f (z3 b) k = some (apz k b 4 f, z3 (b + 4)) := by
  have H := runz (fun n j (a : Nat → Int32) => lX7_append_3 k n (z3 (24 - 8 * j)) a (z3 (b + j))) (fun j f => upd f (b + j).toNat (byz k j)) (fun j _ => 0 ≤ j) 4 (fun a => (a, z3 (b + 4)))
    (fun n j a hj hp => by
      have hp : 0 ≤ j := hp
      refine ⟨?_, by omega⟩
      have g1 : ¬ z3 (24 - 8 * j) < 0 := fun w => by have := (z3lt (by omega) (by omega) (by omega) (by omega)).1 (l3_0 ▸ w); omega
      rw [lX7_append_3, if_neg g1, if_neg (gix (by omega) (by omega) (by decide)), z3nat (by omega) (by omega), show (-8 : Int32) = z3 (-8) from rfl, l3_1, z3a, z3a, show (24 : Int) - 8 * j + -8 = 24 - 8 * (j + 1) by omega, Int.add_assoc b j 1]
      rfl)
    (fun n a hp => by
      rw [lX7_append_3, if_pos (by decide)])
    4 FU 0 f (by omega) (by decide) (by omega)
  have H1 := H.1
  rw [show (24 : Int) - 8 * 0 = 24 by omega, show b + 0 = b by omega] at H1
  unfold mX7_append
  rw [l3_24, H1]
  rfl
/-- two buffers that agree -/
def Bys (b : Int) (f g : Nat → Int32) : Prop := ∀ i, 0 ≤ i → i < b → f i.toNat = g i.toNat ∧ ∃ v, 0 ≤ v ∧ v < 256 ∧ g i.toNat = z3 v
theorem apz_B (k : Int32) {b : Int} (b0 : 0 ≤ b) {f g : Nat → Int32} (h : Bys b f g) : ∀ m : Nat, Bys (b + m) (apz k b m f) (apz k b m g) := by
  intro m
  induction m with
  | zero =>
    intro i i0 i1
    exact h i i0 (by omega)
  | succ m ih =>
    intro i i0 i1
    unfold apz
    rw [itz_e, itz_e, show (0 : Int) + (m : Int) = m by omega]
    by_cases w : i = b + m
    · rw [w, upd_s, upd_s]
      exact ⟨rfl, and255 _⟩
    · rw [upd_n (by omega), upd_n (by omega)]
      exact ih i i0 (by omega)
theorem ok_0 : SOK q_0 := by
  intro u z h
  obtain ⟨hA, hH, ⟨b, b0, b1, e6, e7, hB⟩, hE, hO⟩ := h
  unfold q_0
  generalize u 1 = k1
  generalize u 2 = k2
  generalize u 3 = k3
  generalize u 4 = k4
  generalize u 5 = k5
  have tw : (20 : Int32) = z3 20 := rfl
  have fh : (400 : Int32) = z3 400 := rfl
  by_cases c : b ≤ 380
  · have g1 : ¬ (400 : Int32) < z3 b + 20 := fun w => by
      rw [tw, fh, z3a] at w
      have := (z3lt (by omega) (by omega) (by omega) (by omega)).1 w
      omega
    have g2 : z3 b + 20 ≤ 400 := by
      rw [tw, fh, z3a]
      exact (z3le (by omega) (by omega) (by omega) (by omega)).2 (by omega)
    have m6 : mX6_feed (a6_text_bytes z.1) (a6_text_filled z.1) k1 k2 k3 k4 k5 = some (z3 (b + 4 + 4 + 4 + 4 + 4), apz k5 (b + 4 + 4 + 4 + 4) 4 (apz k4 (b + 4 + 4 + 4) 4 (apz k3 (b + 4 + 4) 4 (apz k2 (b + 4) 4 (apz k1 b 4 (a6_text_bytes z.1))))), z3 (b + 4 + 4 + 4 + 4 + 4)) := by
      unfold mX6_feed mX5_hasRoomFor
      rw [e6, if_neg g1, Option.bind_some, if_neg n10, append3 k1 _ b0 (by omega), Option.bind_some, append3 k2 _ (by omega) (by omega), Option.bind_some, append3 k3 _ (by omega) (by omega), Option.bind_some, append3 k4 _ (by omega) (by omega), Option.bind_some, append3 k5 _ (by omega) (by omega)]
      rfl
    have m7 : mX7_feed (a7_buffer z.2.1) (a7_buffered z.2.1) (a7_thrown z.2.1) k1 k2 k3 k4 k5 = some (z3 (b + 4 + 4 + 4 + 4 + 4), apz k5 (b + 4 + 4 + 4 + 4) 4 (apz k4 (b + 4 + 4 + 4) 4 (apz k3 (b + 4 + 4) 4 (apz k2 (b + 4) 4 (apz k1 b 4 (a7_buffer z.2.1))))), z3 (b + 4 + 4 + 4 + 4 + 4), 0) := by
      unfold mX7_feed
      rw [e7, if_pos g2, append7 k1 _ b0 (by omega), Option.bind_some, append7 k2 _ (by omega) (by omega), Option.bind_some, append7 k3 _ (by omega) (by omega), Option.bind_some, append7 k4 _ (by omega) (by omega), Option.bind_some, append7 k5 _ (by omega) (by omega)]
      rfl
    have nB : Bys (b + 4 + 4 + 4 + 4 + 4) (apz k5 (b + 4 + 4 + 4 + 4) 4 (apz k4 (b + 4 + 4 + 4) 4 (apz k3 (b + 4 + 4) 4 (apz k2 (b + 4) 4 (apz k1 b 4 (a6_text_bytes z.1)))))) (apz k5 (b + 4 + 4 + 4 + 4) 4 (apz k4 (b + 4 + 4 + 4) 4 (apz k3 (b + 4 + 4) 4 (apz k2 (b + 4) 4 (apz k1 b 4 (a7_buffer z.2.1)))))) :=
      apz_B k5 (by omega) (apz_B k4 (by omega) (apz_B k3 (by omega) (apz_B k2 (by omega) (apz_B k1 b0 hB 4) 4) 4) 4) 4
    have E6 : ∃ σ1, s6_feed z.1 k1 k2 k3 k4 k5 = some (z3 (b + 4 + 4 + 4 + 4 + 4), σ1) ∧ ∀ τ1, JB (z3 (b + 4 + 4 + 4 + 4 + 4)) (a7_buffered τ1) (apz k5 (b + 4 + 4 + 4 + 4) 4 (apz k4 (b + 4 + 4 + 4) 4 (apz k3 (b + 4 + 4) 4 (apz k2 (b + 4) 4 (apz k1 b 4 (a6_text_bytes z.1)))))) (a7_buffer τ1) → (∃ a, OkZ a ∧ J6 a z.1 ∧ N7 a (a7_s τ1)) → JH (a6_history_count z.1) (a6_history_kept_E_count z.1) (a6_history_kept_E_mode z.1) (a6_history_kept_E_degree z.1) (a6_history_kept_E_ws z.1) (a6_history_kept_E_xs z.1) (a6_history_kept_E_ys z.1) (a7_edits τ1) (a7_history τ1) → (a6_text_faultKind z.1 = a7_errorKind τ1 ∧ a6_text_faultPosition z.1 = a7_errorPosition τ1) → JO (a6_output_count z.1) (a7_outputLength τ1) (a6_output_signs z.1) (a7_output τ1) → JZ σ1 τ1 := by
      apply Exists.intro
      refine ⟨?_, ?_⟩
      · unfold s6_feed
        rw [m6]
        rfl
      · exact fun τ1 x1 x2 x3 x4 x5 => ⟨x2, x3, x1, x4, x5⟩
    have E7 : ∃ τ1, s7_feed z.2.1 k1 k2 k3 k4 k5 = some (z3 (b + 4 + 4 + 4 + 4 + 4), τ1) ∧ a7_buffered τ1 = z3 (b + 4 + 4 + 4 + 4 + 4) ∧ a7_buffer τ1 = (apz k5 (b + 4 + 4 + 4 + 4) 4 (apz k4 (b + 4 + 4 + 4) 4 (apz k3 (b + 4 + 4) 4 (apz k2 (b + 4) 4 (apz k1 b 4 (a7_buffer z.2.1)))))) ∧ a7_s τ1 = a7_s z.2.1 ∧ a7_edits τ1 = a7_edits z.2.1 ∧ a7_history τ1 = a7_history z.2.1 ∧ a7_errorKind τ1 = a7_errorKind z.2.1 ∧ a7_errorPosition τ1 = a7_errorPosition z.2.1 ∧ a7_outputLength τ1 = a7_outputLength z.2.1 ∧ a7_output τ1 = a7_output z.2.1 := by
      apply Exists.intro
      refine ⟨?_, ?_⟩
      · unfold s7_feed
        rw [m7]
        rfl
      · exact ⟨rfl, rfl, rfl, rfl, rfl, rfl, rfl, rfl, rfl⟩
    obtain ⟨σ1, f6, j6⟩ := E6
    obtain ⟨τ1, f7, i1, i2, i3, i4, i5, i6, i7, i8, i9⟩ := E7
    refine fin0 f6 f7 (j6 τ1 ?_ ?_ ?_ ?_ ?_)
    · rw [i1, i2]
      exact ⟨b + 4 + 4 + 4 + 4 + 4, by omega, by omega, rfl, rfl, nB⟩
    · rw [i3]
      exact hA
    · rw [i4, i5]
      exact hH
    · rw [i6, i7]
      exact hE
    · rw [i8, i9]
      exact hO
  · have g1 : (400 : Int32) < z3 b + 20 := by
      rw [tw, fh, z3a]
      exact (z3lt (by omega) (by omega) (by omega) (by omega)).2 (by omega)
    have g2 : ¬ z3 b + 20 ≤ 400 := fun w => by
      rw [tw, fh, z3a] at w
      have := (z3le (by omega) (by omega) (by omega) (by omega)).1 w
      omega
    have h : JZ z.1 z.2.1 := ⟨hA, hH, ⟨b, b0, b1, e6, e7, hB⟩, hE, hO⟩
    have m6 : mX6_feed (a6_text_bytes z.1) (a6_text_filled z.1) k1 k2 k3 k4 k5 = some (-2, a6_text_bytes z.1, a6_text_filled z.1) := by
      unfold mX6_feed mX5_hasRoomFor
      rw [e6, if_pos g1]
      rfl
    have m7 : mX7_feed (a7_buffer z.2.1) (a7_buffered z.2.1) (a7_thrown z.2.1) k1 k2 k3 k4 k5 = some (-2, a7_buffer z.2.1, a7_buffered z.2.1, 0) := by
      unfold mX7_feed
      rw [e7, if_neg g2]
    have E6 : ∃ σ1, s6_feed z.1 k1 k2 k3 k4 k5 = some (-2, σ1) ∧ (∀ τ, JZ z.1 τ → JZ σ1 τ) := by
      apply Exists.intro
      refine ⟨?_, ?_⟩
      · unfold s6_feed
        rw [m6]
        rfl
      · exact fun τ h => h
    have E7 : ∃ τ1, s7_feed z.2.1 k1 k2 k3 k4 k5 = some (-2, τ1) ∧ (∀ σ, JZ σ z.2.1 → JZ σ τ1) := by
      apply Exists.intro
      refine ⟨?_, ?_⟩
      · unfold s7_feed
        rw [m7]
        rfl
      · exact fun σ h => h
    obtain ⟨σ1, e6, j6⟩ := E6
    obtain ⟨τ1, e7, j7⟩ := E7
    exact fin0 e6 e7 (j7 _ (j6 _ h))
theorem ok_42 : SOK q_42 := by
  intro u z h
  obtain ⟨b, b0, b1, e6, e7, hB⟩ := h.2.2.2.2
  obtain ⟨x, x0, x1, hu⟩ := ex3 (u 1)
  unfold q_42
  rw [hu]
  by_cases c1 : 0 ≤ x ∧ x ≤ b - 1
  · obtain ⟨k1, v, v0, v1, k2⟩ := hB x c1.1 (by omega)
    have g1 : ¬ z3 x < 0 := fun w => by have := (z3lt (by omega) (by omega) (by omega) (by omega)).1 (l3_0 ▸ w); omega
    have g2 : z3 x < z3 b := (z3lt (by omega) (by omega) (by omega) (by omega)).2 (by omega)
    have g3 : ¬ z3 b ≤ z3 x := fun w => by have := (z3le (by omega) (by omega) (by omega) (by omega)).1 w; omega
    have g4 : ¬ (320 : Int32) ≤ z3 x := fun w => by have := (z3le (by omega) (by omega) (by omega) (by omega)).1 (l3_320 ▸ w); omega
    have s6 : mX4_signAt (z3 b) (a6_output_signs z.1) (z3 x) = some (z3 v) := by
      unfold mX4_signAt
      rw [if_neg g1, if_neg g3, if_neg g4, if_neg (gix (by omega) (by omega) (by decide)), z3nat (by omega) (by omega), k1, k2, z3nar v0 v1, if_neg (not_not_intro rfl)]
    have m6 : mX6_written (a6_output_count z.1) (a6_output_signs z.1) (z3 x) = some (0, z3 v) := by
      unfold mX6_written mX4_size
      rw [if_neg g1, e6, Option.bind_some, if_pos g2, s6, Option.bind_some, z3nar v0 v1, if_neg (not_not_intro rfl)]
    have m7 : mX7_written (a7_output z.2.1) (a7_outputLength z.2.1) (a7_thrown z.2.1) (z3 x) = some (z3 v, 0) := by
      unfold mX7_written
      rw [e7, l3_1, z3s, z364 x0 x1, z364 (by omega) (by omega), l6_0, ii_y c1 x0 x1 (by omega) (by omega) (by omega) (by omega), Option.bind_some, gd1, Option.bind_some, if_neg n10, if_neg (gix (by omega) (by omega) (by decide)), z3nat (by omega) (by omega), k2, z3ch v0 v1, z3nar v0 v1, if_neg (not_not_intro rfl)]
    have E6 : ∃ σ1 o1, h_written z.1 (z3 x) z.2.2.1 = some (0, σ1, o1) ∧ (o1 0 = o1 0) ∧ ((0 : Int32) = 0 → o1 = vp_updL z.2.2.1 0 (Int32.toInt64 (z3 v))) ∧ ∀ τ, JZ z.1 τ → JZ σ1 τ := by
      apply Exists.intro
      apply Exists.intro
      refine ⟨?_, rfl, ?_, ?_⟩
      · unfold h_written s6_written
        rw [m6]
        rfl
      · exact fun _ => rfl
      · exact fun τ h => h
    have E7 : ∃ v1 τ1, s7_written z.2.1 (z3 x) = some (v1, τ1) ∧ a7_thrown τ1 = 0 ∧ ((0 : Int32) = 0 → (Int32.toInt64 (z3 v)) = (Int32.toInt64) v1) ∧ ∀ σ, JZ σ z.2.1 → JZ σ τ1 := by
      apply Exists.intro
      apply Exists.intro
      refine ⟨?_, ?_, ?_, ?_⟩
      · unfold s7_written
        rw [m7]
        rfl
      · rfl
      · exact fun _ => rfl
      · exact fun σ h => h
    obtain ⟨σ1, o1, e6, -, v6, j6⟩ := E6
    obtain ⟨w1, τ1, e7, t7, v7, j7⟩ := E7
    exact fin1 (Int32.toInt64) e6 e7 t7 (fun w => by rw [v6 w, updL_s]; exact v7 w) (j7 _ (j6 _ h))
  · have m6 : mX6_written (a6_output_count z.1) (a6_output_signs z.1) (z3 x) = some (1, 0) := by
      unfold mX6_written mX4_size
      rw [e6, Option.bind_some]
      by_cases w : x < 0
      · rw [if_pos (show z3 x < 0 from l3_0 ▸ (z3lt (by omega) (by omega) (by omega) (by omega)).2 w)]
      · rw [if_neg (fun q => w ((z3lt (by omega) (by omega) (by omega) (by omega)).1 (l3_0 ▸ q))), if_neg (fun q => by have := (z3lt (by omega) (by omega) (by omega) (by omega)).1 q; omega)]
    have m7 : mX7_written (a7_output z.2.1) (a7_outputLength z.2.1) (a7_thrown z.2.1) (z3 x) = some (0, 1) := by
      unfold mX7_written
      rw [e7, l3_1, z3s, z364 x0 x1, z364 (by omega) (by omega), l6_0, ii_n c1 x0 x1 (by omega) (by omega) (by omega) (by omega)]
      rfl
    have E6 : ∃ σ1 o1, h_written z.1 (z3 x) z.2.2.1 = some (1, σ1, o1) ∧ (o1 0 = o1 0) ∧ ((1 : Int32) = 0 → o1 = vp_updL z.2.2.1 0 (0)) ∧ ∀ τ, JZ z.1 τ → JZ σ1 τ := by
      apply Exists.intro
      apply Exists.intro
      refine ⟨?_, rfl, ?_, ?_⟩
      · unfold h_written s6_written
        rw [m6]
        rfl
      · exact fun w => absurd w (by decide)
      · exact fun τ h => h
    have E7 : ∃ v1 τ1, s7_written z.2.1 (z3 x) = some (v1, τ1) ∧ a7_thrown τ1 = 1 ∧ ((1 : Int32) = 0 → (0) = (Int32.toInt64) v1) ∧ ∀ σ, JZ σ z.2.1 → JZ σ τ1 := by
      apply Exists.intro
      apply Exists.intro
      refine ⟨?_, ?_, ?_, ?_⟩
      · unfold s7_written
        rw [m7]
        rfl
      · rfl
      · exact fun w => absurd w (by decide)
      · exact fun σ h => h
    obtain ⟨σ1, o1, e6, -, v6, j6⟩ := E6
    obtain ⟨w1, τ1, e7, t7, v7, j7⟩ := E7
    exact fin1 (Int32.toInt64) e6 e7 t7 (fun w => by rw [v6 w, updL_s]; exact v7 w) (j7 _ (j6 _ h))
