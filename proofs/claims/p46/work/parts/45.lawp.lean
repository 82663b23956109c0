/-! What is to be shown of the class holds. -/
theorem lawP_ok (ps : List (Int × Int × Int)) (N : Int) (xs ys ws : Nat → Int32) (N1 : 1 ≤ N) (N4 : N ≤ 4) (hps : PSk N ps) (ex : En 0 N xs (zX (azs ps))) (ey : En 0 N ys (zY (azs ps))) (ew : En 0 N ws (zW (azs ps))) : LawP ps N xs ys ws := by
  have hC : zC (azs ps) = N := hps.2.1
  have hM : zM (azs ps) = 0 := hps.2.2.1
  have hO : OkZ (azs ps) := hps.2.2.2.2.1
  have hr5 := hps.2.2.2.2.2.1
  have h8 := hps.2.2.2.2.2.2.2.1
  have h128 := txs128 hps
  have hL : (txs ps ++ litL 10).length < 380 := by
    have l9 : (litL 10).length = 6 := rfl
    rw [List.length_append]
    omega
  have hMM : (txs ps ++ litL 10).length ≤ 20 * (((txs ps ++ litL 10).length + 19) / 20) ∧ 20 * (((txs ps ++ litL 10).length + 19) / 20) < (txs ps ++ litL 10).length + 20 := by omega
  have hp : Pl9 (azs ps) := ⟨hO, hM, by omega⟩
  have L9 : ∀ σ, FI9 (txs ps ++ litL 10) (((txs ps ++ litL 10).length + 19) / 20) σ → ∃ σ', s6_load σ (nI (txs ps ++ litL 10).length) = some (0, z3 N, σ') ∧ JA (azs ps) 0 σ' := fun σ h => load9 N4 hps h128 hL hMM h
  rw [← hC] at ex ey ew hr5 N1 N4 L9
  unfold LawP
  rw [← hC]
  refine ⟨FI9 (txs ps ++ litL 10), JA (azs ps) 0, JA (zC (azs ps), 2, zD (azs ps), zX (azs ps), zY (azs ps), zW (azs ps)) 1, ((txs ps ++ litL 10).length + 19) / 20, hMM, ⟨rfl, fun j hj => absurd hj (by omega)⟩, fun i σ h hi => feed9 h128 hL h hi, L9, fun σ j => a_ek j, fun σ j => a_mode hM j, ⟨fun σ j => a_missed hp j, fun σ j => a_many0 hp j, fun σ j => a_hid hp j, fun σ j => a_deg1 hp j, fun σ j => a_deg0 j N1, fun σ j => a_alt hp j, fun x k x0 x1 hk => ?_, fun x σ x0 x1 j => a_newt hp N4 hr5 ex j x0 x1⟩, fun σ j => a_set hM j, fun σ j => a_prop (a := (zC (azs ps), 2, zD (azs ps), zX (azs ps), zY (azs ps), zW (azs ps))) rfl ew j, fun x σ x0 x1 j => a_sum (a := (zC (azs ps), 2, zD (azs ps), zX (azs ps), zY (azs ps), zW (azs ps))) (x := x) ex ey j (show -12 ≤ x by omega) (show x ≤ 12 by omega), fun σ j => a_w5 N4 j, fun σ j => a_k13 j⟩
  have hk0 : kiz (zC (azs ps)) (zX (azs ps)) (zY (azs ps)) (zw (azs ps)) x ≤ 1 := by
    rw [(pl_v hp x).1]
    decide
  rcases hk with rfl | rfl
  · exact ⟨_, fun σ j => a_val (k := 0) j x0 x1 (by omega) hk0, fun σ j => a_pl (k := 0) hp j x0 x1 (by omega)⟩
  · exact ⟨_, fun σ j => a_val (k := 1) j x0 x1 (by omega) hk0, fun σ j => a_pl (k := 1) hp j x0 x1 (by omega)⟩
