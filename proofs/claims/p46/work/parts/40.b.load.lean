/-! feed and load on the law's text. -/
theorem shb {n s : Nat} {u : UInt32} (hu : u.toNat = s) (hs : s < 32) (hn : n < 2147483648) : ((nI n).toUInt32 >>> u).toInt32 &&& 255 = nI (n / 2 ^ s % 256) := by
  apply Int32.toBitVec_inj.1
  rw [Int32.toBitVec_and]
  apply BitVec.eq_of_toNat_eq
  rw [BitVec.toNat_and, nI_bv, BitVec.toNat_ofNat]
  have e : (((nI n).toUInt32 >>> u).toInt32).toBitVec.toNat = n / 2 ^ s := by
    show ((nI n).toUInt32 >>> u).toNat = n / 2 ^ s
    rw [UInt32.toNat_shiftRight, hu, Nat.mod_eq_of_lt hs, Nat.shiftRight_eq_div_pow]
    have e2 : (nI n).toUInt32.toNat = n := by
      show (BitVec.ofNat 32 n).toNat = n
      rw [BitVec.toNat_ofNat]
      omega
    rw [e2]
  rw [e, show (255 : Int32).toBitVec.toNat = 2 ^ 8 - 1 from rfl, Nat.and_two_pow_sub_one_eq_mod]
  omega
theorem byz4 {a b c d : Nat} (ha : a < 128) (hb : b < 128) (hc : c < 128) (hd : d < 128) : byz (nI (((a * 256 + b) * 256 + c) * 256 + d)) 0 = nI a ∧ byz (nI (((a * 256 + b) * 256 + c) * 256 + d)) 1 = nI b ∧ byz (nI (((a * 256 + b) * 256 + c) * 256 + d)) 2 = nI c ∧ byz (nI (((a * 256 + b) * 256 + c) * 256 + d)) 3 = nI d := by
  have hn : ((a * 256 + b) * 256 + c) * 256 + d < 2147483648 := by omega
  unfold byz
  refine ⟨?_, ?_, ?_, ?_⟩
  · rw [shb (s := 24) (by decide +kernel) (by decide) hn, show (((a * 256 + b) * 256 + c) * 256 + d) / 2 ^ 24 % 256 = a by omega]
  · rw [shb (s := 16) (by decide +kernel) (by decide) hn, show (((a * 256 + b) * 256 + c) * 256 + d) / 2 ^ 16 % 256 = b by omega]
  · rw [shb (s := 8) (by decide +kernel) (by decide) hn, show (((a * 256 + b) * 256 + c) * 256 + d) / 2 ^ 8 % 256 = c by omega]
  · rw [shb (s := 0) (by decide +kernel) (by decide) hn, show (((a * 256 + b) * 256 + c) * 256 + d) / 2 ^ 0 % 256 = d by omega]
/-- the first b letters stand in the buffer -/
def Fb (L : List Nat) (b : Nat) (f : Nat → Int32) : Prop := ∀ j, j < b → f j = nI (chN L j)
theorem Fb.up {L : List Nat} (h128 : ∀ c ∈ L, c < 128) {b : Nat} {f : Nat → Int32} (h : Fb L b f) : Fb L (b + 4) (apz (nI (fwN L b)) (b : Int) 4 f) := by
  obtain ⟨e0, e1, e2, e3⟩ := byz4 (chN_b h128 b) (chN_b h128 (b + 1)) (chN_b h128 (b + 2)) (chN_b h128 (b + 3))
  intro j hj
  show upd (upd (upd (upd f ((b : Int) + 0).toNat (byz (nI (fwN L b)) 0)) ((b : Int) + (0 + 1)).toNat (byz (nI (fwN L b)) (0 + 1))) ((b : Int) + (0 + 1 + 1)).toNat (byz (nI (fwN L b)) (0 + 1 + 1))) ((b : Int) + (0 + 1 + 1 + 1)).toNat (byz (nI (fwN L b)) (0 + 1 + 1 + 1)) j = nI (chN L j)
  rw [show ((b : Int) + 0).toNat = b by omega, show ((b : Int) + (0 + 1)).toNat = b + 1 by omega, show ((b : Int) + (0 + 1 + 1)).toNat = b + 2 by omega, show ((b : Int) + (0 + 1 + 1 + 1)).toNat = b + 3 by omega]
  by_cases w3 : j = b + 3
  · rw [w3, upd_s]
    exact e3
  rw [upd_n (by omega)]
  by_cases w2 : j = b + 2
  · rw [w2, upd_s]
    exact e2
  rw [upd_n (by omega)]
  by_cases w1 : j = b + 1
  · rw [w1, upd_s]
    exact e1
  rw [upd_n (by omega)]
  by_cases w0 : j = b
  · rw [w0, upd_s]
    exact e0
  rw [upd_n (by omega)]
  exact h j (by omega)
def FI9 (L : List Nat) (i : Nat) (σ : S6) : Prop := a6_text_filled σ = z3 (20 * i : Nat) ∧ Fb L (20 * i) (a6_text_bytes σ)
theorem feed9 {L : List Nat} (h128 : ∀ c ∈ L, c < 128) (hL : L.length < 380) {i : Nat} {σ : S6} (h : FI9 L i σ) (hi : 20 * i < L.length) : ∃ r σ', s6_feed σ (nI (fwN L (20 * i))) (nI (fwN L (20 * i + 4))) (nI (fwN L (20 * i + 8))) (nI (fwN L (20 * i + 12))) (nI (fwN L (20 * i + 16))) = some (r, σ') ∧ FI9 L (i + 1) σ' := by
  obtain ⟨e, hb⟩ := h
  have b1 := hb.up h128
  have b2 := b1.up h128
  have b3 := b2.up h128
  have b4 := b3.up h128
  have b5 := b4.up h128
  have HR : mX5_hasRoomFor (a6_text_filled σ) 20 = some 1 := by
    unfold mX5_hasRoomFor
    rw [e, show (20 : Int32) = z3 20 from rfl, z3a, if_neg (fun w => by have := (z3lt (a := 400) (by omega) (by omega) (by omega) (by omega)).1 w; omega)]
  have A1 := append3 (nI (fwN L (20 * i))) (a6_text_bytes σ) (b := ((20 * i : Nat) : Int)) (by omega) (by omega)
  have A2 := append3 (nI (fwN L (20 * i + 4))) (apz (nI (fwN L (20 * i))) ((20 * i : Nat) : Int) 4 (a6_text_bytes σ)) (b := ((20 * i + 4 : Nat) : Int)) (by omega) (by omega)
  have A3 := append3 (nI (fwN L (20 * i + 4 + 4))) (apz (nI (fwN L (20 * i + 4))) ((20 * i + 4 : Nat) : Int) 4 (apz (nI (fwN L (20 * i))) ((20 * i : Nat) : Int) 4 (a6_text_bytes σ))) (b := ((20 * i + 4 + 4 : Nat) : Int)) (by omega) (by omega)
  have A4 := append3 (nI (fwN L (20 * i + 4 + 4 + 4))) (apz (nI (fwN L (20 * i + 4 + 4))) ((20 * i + 4 + 4 : Nat) : Int) 4 (apz (nI (fwN L (20 * i + 4))) ((20 * i + 4 : Nat) : Int) 4 (apz (nI (fwN L (20 * i))) ((20 * i : Nat) : Int) 4 (a6_text_bytes σ)))) (b := ((20 * i + 4 + 4 + 4 : Nat) : Int)) (by omega) (by omega)
  have A5 := append3 (nI (fwN L (20 * i + 4 + 4 + 4 + 4))) (apz (nI (fwN L (20 * i + 4 + 4 + 4))) ((20 * i + 4 + 4 + 4 : Nat) : Int) 4 (apz (nI (fwN L (20 * i + 4 + 4))) ((20 * i + 4 + 4 : Nat) : Int) 4 (apz (nI (fwN L (20 * i + 4))) ((20 * i + 4 : Nat) : Int) 4 (apz (nI (fwN L (20 * i))) ((20 * i : Nat) : Int) 4 (a6_text_bytes σ))))) (b := ((20 * i + 4 + 4 + 4 + 4 : Nat) : Int)) (by omega) (by omega)
  have c1 : z3 (((20 * i : Nat) : Int) + 4) = z3 ((20 * i + 4 : Nat) : Int) := by rw [show ((20 * i : Nat) : Int) + 4 = ((20 * i + 4 : Nat) : Int) by omega]
  have c2 : z3 (((20 * i + 4 : Nat) : Int) + 4) = z3 ((20 * i + 4 + 4 : Nat) : Int) := by rw [show ((20 * i + 4 : Nat) : Int) + 4 = ((20 * i + 4 + 4 : Nat) : Int) by omega]
  have c3 : z3 (((20 * i + 4 + 4 : Nat) : Int) + 4) = z3 ((20 * i + 4 + 4 + 4 : Nat) : Int) := by rw [show ((20 * i + 4 + 4 : Nat) : Int) + 4 = ((20 * i + 4 + 4 + 4 : Nat) : Int) by omega]
  have c4 : z3 (((20 * i + 4 + 4 + 4 : Nat) : Int) + 4) = z3 ((20 * i + 4 + 4 + 4 + 4 : Nat) : Int) := by rw [show ((20 * i + 4 + 4 + 4 : Nat) : Int) + 4 = ((20 * i + 4 + 4 + 4 + 4 : Nat) : Int) by omega]
  have c5 : z3 (((20 * i + 4 + 4 + 4 + 4 : Nat) : Int) + 4) = z3 ((20 * (i + 1) : Nat) : Int) := by rw [show ((20 * i + 4 + 4 + 4 + 4 : Nat) : Int) + 4 = ((20 * (i + 1) : Nat) : Int) by omega]
  rw [show 20 * i + 8 = 20 * i + 4 + 4 from rfl, show 20 * i + 12 = 20 * i + 4 + 4 + 4 from rfl, show 20 * i + 16 = 20 * i + 4 + 4 + 4 + 4 from rfl]
  have M : ∃ B, mX6_feed (a6_text_bytes σ) (a6_text_filled σ) (nI (fwN L (20 * i))) (nI (fwN L (20 * i + 4))) (nI (fwN L (20 * i + 4 + 4))) (nI (fwN L (20 * i + 4 + 4 + 4))) (nI (fwN L (20 * i + 4 + 4 + 4 + 4))) = some (z3 ((20 * (i + 1) : Nat) : Int), B, z3 ((20 * (i + 1) : Nat) : Int)) ∧ Fb L (20 * (i + 1)) B := by
    refine ⟨_, ?_, b5⟩
    unfold mX6_feed mX5_filled
    rw [HR, Option.bind_some, if_neg n10, e, A1, Option.bind_some]
    rw [c1, A2, Option.bind_some]
    rw [c2, A3, Option.bind_some]
    rw [c3, A4, Option.bind_some]
    rw [c4, A5, Option.bind_some, Option.bind_some, c5]
  obtain ⟨B, m6, hB⟩ := M
  apply Exists.intro
  apply Exists.intro
  refine ⟨?_, ?_⟩
  · unfold s6_feed
    rw [m6]
    rfl
  · exact ⟨rfl, hB⟩
/-- the object stands for the points, with h remembered states -/
def JA (a : AZ) (h : Int) (σ : S6) : Prop := OkZ a ∧ N3 a (a6_present_nodes_count σ) (a6_present_nodes_degree σ) (a6_present_nodes_mode σ) (a6_present_nodes_ws σ) (a6_present_nodes_xs σ) (a6_present_nodes_ys σ) ∧ Cv a (a6_present_denominator σ) (a6_present_numerator σ) (a6_present_order σ) (a6_present_weights σ) ∧ a6_history_count σ = z3 h ∧ a6_text_faultKind σ = 0
theorem load9 {N : Int} {ps : List (Int × Int × Int)} (N4 : N ≤ 4) (hps : PSk N ps) (h128 : ∀ c ∈ txs ps ++ litL 10, c < 128) (hL : (txs ps ++ litL 10).length < 380) {M : Nat} (hM : (txs ps ++ litL 10).length ≤ 20 * M ∧ 20 * M < (txs ps ++ litL 10).length + 20) {σ : S6} (h : FI9 (txs ps ++ litL 10) M σ) : ∃ σ', s6_load σ (nI (txs ps ++ litL 10).length) = some (0, z3 N, σ') ∧ JA (azs ps) 0 σ' := by
  obtain ⟨e, hb⟩ := h
  have hO : OkZ (azs ps) := hps.2.2.2.2.1
  have hC : zC (azs ps) = N := hps.2.1
  have hBt : Bt ((txs ps ++ litL 10).length : Int) (a6_text_bytes σ) (a6_text_bytes σ) (fun i => ((txs ps ++ litL 10).getD i.toNat 0 : Nat)) := by
    intro i i0 i1
    have hi : i.toNat < (txs ps ++ litL 10).length := by omega
    have e1 := hb i.toNat (by omega)
    have e2 : chN (txs ps ++ litL 10) i.toNat = (txs ps ++ litL 10).getD i.toNat 0 := by
      unfold chN
      rw [if_pos hi]
    have b := chN_b h128 i.toNat
    rw [e2] at e1 b
    have e3 : (a6_text_bytes σ) i.toNat = z3 (((txs ps ++ litL 10).getD i.toNat 0 : Nat) : Int) := by rw [e1, z3_nI (by omega)]
    exact ⟨e3, e3, by show (0 : Int) ≤ (((txs ps ++ litL 10).getD i.toNat 0 : Nat) : Int); omega, by show (((txs ps ++ litL 10).getD i.toNat 0 : Nat) : Int) < 256; omega⟩
  have hR : Rs (fun i => ((txs ps ++ litL 10).getD i.toNat 0 : Nat)) ((txs ps ++ litL 10).length : Int) 0 (txs ps ++ litL 10) := by
    refine ⟨Int.le_refl 0, by omega, fun i hi => ?_⟩
    show (((txs ps ++ litL 10).getD (0 + (i : Int)).toNat 0 : Nat) : Int) = _
    rw [show (0 + (i : Int)).toNat = i by omega]
  have hlen : ps.length ≤ 4 := by
    have := hps.1
    omega
  have e0 : ∀ (f : Nat → Int32) (F : Int → Int), En 0 0 f F := fun f F k k0 k1 => absurd k1 (by omega)
  obtain ⟨n', st', tk', c, d, m, ws, xs, ys, LA, h32⟩ := rdT9 (f := a6_text_bytes σ) hBt (by omega) (by omega) hps (by omega) ps [] (2045 - ps.length) 0 0 (a6_text_start σ) (a6_text_token σ) 0 0 0 (a6_trial_nodes_ws σ) (a6_trial_nodes_xs σ) (a6_trial_nodes_ys σ) rfl (Int.le_refl 0) hR ⟨rfl, rfl, rfl, e0 _ _, e0 _ _, e0 _ _⟩ (Int.le_refl 0) (by omega)
  rw [show 2045 - ps.length + ps.length + 3 = FU from (show 2045 - ps.length + ps.length + 3 = 2048 by omega)] at LA
  have LA : lX5_read_29 (z3 ((txs ps ++ litL 10).length : Int)) (a6_text_bytes σ) FU 1 0 0 (-1) 0 (a6_text_start σ) (a6_text_token σ) 0 0 0 (a6_trial_nodes_ws σ) (a6_trial_nodes_xs σ) (a6_trial_nodes_ys σ) = some (0, -1, n', st', tk', c, d, m, ws, xs, ys) := LA
  have ec : c = z3 (zC (azs ps)) := h32.1
  subst ec
  have h3c := h32.cp (a6_present_nodes_ws σ) (a6_present_nodes_xs σ) (a6_present_nodes_ys σ) hO
  obtain ⟨den1, num1, or1, pr1, so1, wt1, RK, hCv⟩ := reckon3 hO h3c (a6_present_denominator σ) (a6_present_numerator σ) (a6_present_order σ) (a6_present_product σ) (a6_present_sorted σ) (a6_present_weights σ)
  have NB : mX6_needBetween (z3 ((txs ps ++ litL 10).length : Int)) 0 (a6_text_filled σ) = some 0 := by
    rw [e, l3_0]
    exact nb_y ⟨by omega, by omega⟩ (by omega) (by omega) (by omega) (by omega) (by omega) (by omega)
  have m6 : mX6_load (a6_history_count σ) (a6_present_denominator σ) (a6_present_nodes_count σ) (a6_present_nodes_degree σ) (a6_present_nodes_mode σ) (a6_present_nodes_ws σ) (a6_present_nodes_xs σ) (a6_present_nodes_ys σ) (a6_present_numerator σ) (a6_present_order σ) (a6_present_product σ) (a6_present_sorted σ) (a6_present_weights σ) (a6_text_bytes σ) (a6_text_faultKind σ) (a6_text_faultPosition σ) (a6_text_filled σ) (a6_text_length σ) (a6_text_next σ) (a6_text_start σ) (a6_text_token σ) (a6_trial_nodes_count σ) (a6_trial_nodes_degree σ) (a6_trial_nodes_mode σ) (a6_trial_nodes_ws σ) (a6_trial_nodes_xs σ) (a6_trial_nodes_ys σ) (z3 ((txs ps ++ litL 10).length : Int)) = some (0, z3 (zC (azs ps)), 0, den1, z3 (zC (azs ps)), d, m, cpF (a6_present_nodes_ws σ) ws, cpF (a6_present_nodes_xs σ) xs, cpF (a6_present_nodes_ys σ) ys, num1, or1, pr1, so1, wt1, 0, -1, 0, z3 ((txs ps ++ litL 10).length : Int), n', st', tk', z3 (zC (azs ps)), d, m, ws, xs, ys) := by
    unfold mX6_load mX5_filled mX5_clear mX3_size mX2_clear mX5_read mX3_clear
    rw [Option.bind_some, NB, Option.bind_some, if_pos rfl, Option.bind_some]
    rw [LA, Option.bind_some, if_pos rfl, Option.bind_some, Option.bind_some, if_neg n10, copy3, Option.bind_some, RK]
    rfl
  rw [← z3_nI (by omega), show z3 N = z3 (zC (azs ps)) by rw [hC]]
  apply Exists.intro
  refine ⟨?_, ?_⟩
  · unfold s6_load
    rw [m6]
    rfl
  · exact ⟨hO, h3c, hCv, rfl, rfl⟩
