abbrev a6_answer_top (σ : S6) : Int64 := σ.1
abbrev a6_answer_bottom (σ : S6) : Int64 := σ.2.1
abbrev a6_best_top (σ : S6) : Int64 := σ.2.2.1
abbrev a6_best_bottom (σ : S6) : Int64 := σ.2.2.2.1
abbrev a6_history_count (σ : S6) : Int32 := σ.2.2.2.2.1
abbrev a6_history_kept_E_count (σ : S6) : Nat → Int32 := σ.2.2.2.2.2.1
abbrev a6_history_kept_E_mode (σ : S6) : Nat → Int32 := σ.2.2.2.2.2.2.1
abbrev a6_history_kept_E_degree (σ : S6) : Nat → Int32 := σ.2.2.2.2.2.2.2.1
abbrev a6_history_kept_E_ws (σ : S6) : Nat → Nat → Int32 := σ.2.2.2.2.2.2.2.2.1
abbrev a6_history_kept_E_xs (σ : S6) : Nat → Nat → Int32 := σ.2.2.2.2.2.2.2.2.2.1
abbrev a6_history_kept_E_ys (σ : S6) : Nat → Nat → Int32 := σ.2.2.2.2.2.2.2.2.2.2.1
abbrev a6_output_count (σ : S6) : Int32 := σ.2.2.2.2.2.2.2.2.2.2.2.1
abbrev a6_output_signs (σ : S6) : Nat → Int32 := σ.2.2.2.2.2.2.2.2.2.2.2.2.1
abbrev a6_present_denominator (σ : S6) : Nat → Int64 := σ.2.2.2.2.2.2.2.2.2.2.2.2.2.1
abbrev a6_present_nodes_count (σ : S6) : Int32 := σ.2.2.2.2.2.2.2.2.2.2.2.2.2.2.1
abbrev a6_present_nodes_mode (σ : S6) : Int32 := σ.2.2.2.2.2.2.2.2.2.2.2.2.2.2.2.1
abbrev a6_present_nodes_degree (σ : S6) : Int32 := σ.2.2.2.2.2.2.2.2.2.2.2.2.2.2.2.2.1
abbrev a6_present_nodes_ws (σ : S6) : Nat → Int32 := σ.2.2.2.2.2.2.2.2.2.2.2.2.2.2.2.2.2.1
abbrev a6_present_nodes_xs (σ : S6) : Nat → Int32 := σ.2.2.2.2.2.2.2.2.2.2.2.2.2.2.2.2.2.2.1
abbrev a6_present_nodes_ys (σ : S6) : Nat → Int32 := σ.2.2.2.2.2.2.2.2.2.2.2.2.2.2.2.2.2.2.2.1
abbrev a6_present_numerator (σ : S6) : Nat → Int64 := σ.2.2.2.2.2.2.2.2.2.2.2.2.2.2.2.2.2.2.2.2.1
abbrev a6_present_order (σ : S6) : Nat → Int32 := σ.2.2.2.2.2.2.2.2.2.2.2.2.2.2.2.2.2.2.2.2.2.1
abbrev a6_present_product (σ : S6) : Nat → Int64 := σ.2.2.2.2.2.2.2.2.2.2.2.2.2.2.2.2.2.2.2.2.2.2.1
abbrev a6_present_sorted (σ : S6) : Nat → Int32 := σ.2.2.2.2.2.2.2.2.2.2.2.2.2.2.2.2.2.2.2.2.2.2.2.1
abbrev a6_present_weights (σ : S6) : Nat → Int64 := σ.2.2.2.2.2.2.2.2.2.2.2.2.2.2.2.2.2.2.2.2.2.2.2.2.1
abbrev a6_text_filled (σ : S6) : Int32 := σ.2.2.2.2.2.2.2.2.2.2.2.2.2.2.2.2.2.2.2.2.2.2.2.2.2.1
abbrev a6_text_length (σ : S6) : Int32 := σ.2.2.2.2.2.2.2.2.2.2.2.2.2.2.2.2.2.2.2.2.2.2.2.2.2.2.1
abbrev a6_text_token (σ : S6) : Int32 := σ.2.2.2.2.2.2.2.2.2.2.2.2.2.2.2.2.2.2.2.2.2.2.2.2.2.2.2.1
abbrev a6_text_start (σ : S6) : Int32 := σ.2.2.2.2.2.2.2.2.2.2.2.2.2.2.2.2.2.2.2.2.2.2.2.2.2.2.2.2.1
abbrev a6_text_next (σ : S6) : Int32 := σ.2.2.2.2.2.2.2.2.2.2.2.2.2.2.2.2.2.2.2.2.2.2.2.2.2.2.2.2.2.1
abbrev a6_text_faultKind (σ : S6) : Int32 := σ.2.2.2.2.2.2.2.2.2.2.2.2.2.2.2.2.2.2.2.2.2.2.2.2.2.2.2.2.2.2.1
abbrev a6_text_faultPosition (σ : S6) : Int32 := σ.2.2.2.2.2.2.2.2.2.2.2.2.2.2.2.2.2.2.2.2.2.2.2.2.2.2.2.2.2.2.2.1
abbrev a6_text_bytes (σ : S6) : Nat → Int32 := σ.2.2.2.2.2.2.2.2.2.2.2.2.2.2.2.2.2.2.2.2.2.2.2.2.2.2.2.2.2.2.2.2.1
abbrev a6_trial_denominator (σ : S6) : Nat → Int64 := σ.2.2.2.2.2.2.2.2.2.2.2.2.2.2.2.2.2.2.2.2.2.2.2.2.2.2.2.2.2.2.2.2.2.1
abbrev a6_trial_nodes_count (σ : S6) : Int32 := σ.2.2.2.2.2.2.2.2.2.2.2.2.2.2.2.2.2.2.2.2.2.2.2.2.2.2.2.2.2.2.2.2.2.2.1
abbrev a6_trial_nodes_mode (σ : S6) : Int32 := σ.2.2.2.2.2.2.2.2.2.2.2.2.2.2.2.2.2.2.2.2.2.2.2.2.2.2.2.2.2.2.2.2.2.2.2.1
abbrev a6_trial_nodes_degree (σ : S6) : Int32 := σ.2.2.2.2.2.2.2.2.2.2.2.2.2.2.2.2.2.2.2.2.2.2.2.2.2.2.2.2.2.2.2.2.2.2.2.2.1
abbrev a6_trial_nodes_ws (σ : S6) : Nat → Int32 := σ.2.2.2.2.2.2.2.2.2.2.2.2.2.2.2.2.2.2.2.2.2.2.2.2.2.2.2.2.2.2.2.2.2.2.2.2.2.1
abbrev a6_trial_nodes_xs (σ : S6) : Nat → Int32 := σ.2.2.2.2.2.2.2.2.2.2.2.2.2.2.2.2.2.2.2.2.2.2.2.2.2.2.2.2.2.2.2.2.2.2.2.2.2.2.1
abbrev a6_trial_nodes_ys (σ : S6) : Nat → Int32 := σ.2.2.2.2.2.2.2.2.2.2.2.2.2.2.2.2.2.2.2.2.2.2.2.2.2.2.2.2.2.2.2.2.2.2.2.2.2.2.2.1
abbrev a6_trial_numerator (σ : S6) : Nat → Int64 := σ.2.2.2.2.2.2.2.2.2.2.2.2.2.2.2.2.2.2.2.2.2.2.2.2.2.2.2.2.2.2.2.2.2.2.2.2.2.2.2.2.1
abbrev a6_trial_order (σ : S6) : Nat → Int32 := σ.2.2.2.2.2.2.2.2.2.2.2.2.2.2.2.2.2.2.2.2.2.2.2.2.2.2.2.2.2.2.2.2.2.2.2.2.2.2.2.2.2.1
abbrev a6_trial_product (σ : S6) : Nat → Int64 := σ.2.2.2.2.2.2.2.2.2.2.2.2.2.2.2.2.2.2.2.2.2.2.2.2.2.2.2.2.2.2.2.2.2.2.2.2.2.2.2.2.2.2.1
abbrev a6_trial_sorted (σ : S6) : Nat → Int32 := σ.2.2.2.2.2.2.2.2.2.2.2.2.2.2.2.2.2.2.2.2.2.2.2.2.2.2.2.2.2.2.2.2.2.2.2.2.2.2.2.2.2.2.2.1
abbrev a6_trial_weights (σ : S6) : Nat → Int64 := σ.2.2.2.2.2.2.2.2.2.2.2.2.2.2.2.2.2.2.2.2.2.2.2.2.2.2.2.2.2.2.2.2.2.2.2.2.2.2.2.2.2.2.2.2
abbrev a7_edits (σ : S7) : Int32 := σ.1
abbrev a7_thrown (σ : S7) : Int32 := σ.2.1
abbrev a7_buffered (σ : S7) : Int32 := σ.2.2.1
abbrev a7_errorKind (σ : S7) : Int32 := σ.2.2.2.1
abbrev a7_errorPosition (σ : S7) : Int32 := σ.2.2.2.2.1
abbrev a7_length (σ : S7) : Int32 := σ.2.2.2.2.2.1
abbrev a7_start (σ : S7) : Int32 := σ.2.2.2.2.2.2.1
abbrev a7_next (σ : S7) : Int32 := σ.2.2.2.2.2.2.2.1
abbrev a7_token (σ : S7) : Int32 := σ.2.2.2.2.2.2.2.2.1
abbrev a7_value (σ : S7) : Int32 := σ.2.2.2.2.2.2.2.2.2.1
abbrev a7_kind (σ : S7) : Int32 := σ.2.2.2.2.2.2.2.2.2.2.1
abbrev a7_position (σ : S7) : Int32 := σ.2.2.2.2.2.2.2.2.2.2.2.1
abbrev a7_numberRead (σ : S7) : Int32 := σ.2.2.2.2.2.2.2.2.2.2.2.2.1
abbrev a7_up (σ : S7) : Int64 := σ.2.2.2.2.2.2.2.2.2.2.2.2.2.1
abbrev a7_low (σ : S7) : Int64 := σ.2.2.2.2.2.2.2.2.2.2.2.2.2.2.1
abbrev a7_outputLength (σ : S7) : Int32 := σ.2.2.2.2.2.2.2.2.2.2.2.2.2.2.2.1
abbrev a7_aside (σ : S7) : Nat → Int32 := σ.2.2.2.2.2.2.2.2.2.2.2.2.2.2.2.2.1
abbrev a7_buffer (σ : S7) : Nat → Int32 := σ.2.2.2.2.2.2.2.2.2.2.2.2.2.2.2.2.2.1
abbrev a7_coefficients (σ : S7) : Nat → Int64 := σ.2.2.2.2.2.2.2.2.2.2.2.2.2.2.2.2.2.2.1
abbrev a7_history (σ : S7) : Nat → Int32 := σ.2.2.2.2.2.2.2.2.2.2.2.2.2.2.2.2.2.2.2.1
abbrev a7_order (σ : S7) : Nat → Int32 := σ.2.2.2.2.2.2.2.2.2.2.2.2.2.2.2.2.2.2.2.2.1
abbrev a7_output (σ : S7) : Nat → Int32 := σ.2.2.2.2.2.2.2.2.2.2.2.2.2.2.2.2.2.2.2.2.2.1
abbrev a7_product (σ : S7) : Nat → Int64 := σ.2.2.2.2.2.2.2.2.2.2.2.2.2.2.2.2.2.2.2.2.2.2.1
abbrev a7_s (σ : S7) : Nat → Int32 := σ.2.2.2.2.2.2.2.2.2.2.2.2.2.2.2.2.2.2.2.2.2.2.2.1
abbrev a7_weights (σ : S7) : Nat → Int64 := σ.2.2.2.2.2.2.2.2.2.2.2.2.2.2.2.2.2.2.2.2.2.2.2.2
def thr7 (σ : S7) (t : Int32) : S7 := (σ.1, t, σ.2.2)
theorem qq_4 (u : Nat → Int32) (z : SL) (h : a6_present_nodes_count z.1 = a7_s z.2.1 2) : q_4 u z = some (z.1, thr7 z.2.1 0, z.2.2.1, z.2.2.2) := by
  have g : ¬ ((2 : Int32) < 0 ∨ 18 ≤ Int32.toNatClampNeg 2) := by decide
  have e : mX7_points (a7_s z.2.1) (a7_thrown z.2.1) = some (a7_s z.2.1 2, 0) := (if_neg g).trans rfl
  have e6 : s6_points z.1 = some (a6_present_nodes_count z.1, z.1) := rfl
  have e7 : s7_points z.2.1 = some (a7_s z.2.1 2, thr7 z.2.1 0) := by
    unfold s7_points
    rw [e]
    rfl
  unfold q_4
  rw [e6, e7]
  exact if_pos h
theorem qq_5 (u : Nat → Int32) (z : SL) (h : a6_present_nodes_mode z.1 = a7_s z.2.1 0) : q_5 u z = some (z.1, thr7 z.2.1 0, z.2.2.1, z.2.2.2) := by
  have g : ¬ ((0 : Int32) < 0 ∨ 18 ≤ Int32.toNatClampNeg 0) := by decide
  have e : mX7_mode (a7_s z.2.1) (a7_thrown z.2.1) = some (a7_s z.2.1 0, 0) := (if_neg g).trans rfl
  have e6 : s6_mode z.1 = some (a6_present_nodes_mode z.1, z.1) := rfl
  have e7 : s7_mode z.2.1 = some (a7_s z.2.1 0, thr7 z.2.1 0) := by
    unfold s7_mode
    rw [e]
    rfl
  unfold q_5
  rw [e6, e7]
  exact if_pos h
theorem qq_6 (u : Nat → Int32) (z : SL) (h : a6_present_nodes_degree z.1 = a7_s z.2.1 1) : q_6 u z = some (z.1, thr7 z.2.1 0, z.2.2.1, z.2.2.2) := by
  have g : ¬ ((1 : Int32) < 0 ∨ 18 ≤ Int32.toNatClampNeg 1) := by decide
  have e : mX7_degree (a7_s z.2.1) (a7_thrown z.2.1) = some (a7_s z.2.1 1, 0) := (if_neg g).trans rfl
  have e6 : s6_degree z.1 = some (a6_present_nodes_degree z.1, z.1) := rfl
  have e7 : s7_degree z.2.1 = some (a7_s z.2.1 1, thr7 z.2.1 0) := by
    unfold s7_degree
    rw [e]
    rfl
  unfold q_6
  rw [e6, e7]
  exact if_pos h
theorem qq_2 (u : Nat → Int32) (z : SL) (h : a6_text_faultKind z.1 = a7_errorKind z.2.1) : q_2 u z = some (z.1, thr7 z.2.1 0, z.2.2.1, z.2.2.2) := by
  have e6 : s6_errorKind z.1 = some (a6_text_faultKind z.1, z.1) := rfl
  have e7 : s7_errorKind z.2.1 = some (a7_errorKind z.2.1, thr7 z.2.1 0) := rfl
  unfold q_2
  rw [e6, e7]
  exact if_pos h
theorem qq_3 (u : Nat → Int32) (z : SL) (h : a6_text_faultPosition z.1 = a7_errorPosition z.2.1) : q_3 u z = some (z.1, thr7 z.2.1 0, z.2.2.1, z.2.2.2) := by
  have e6 : s6_errorPosition z.1 = some (a6_text_faultPosition z.1, z.1) := rfl
  have e7 : s7_errorPosition z.2.1 = some (a7_errorPosition z.2.1, thr7 z.2.1 0) := rfl
  unfold q_3
  rw [e6, e7]
  exact if_pos h
