theorem s6_point_of {σ : S6} {i j : Int32} {tg : Nat} {v : Int32} (e : mX6_point (a6_present_nodes_count σ) (a6_present_nodes_ws σ) (a6_present_nodes_xs σ) (a6_present_nodes_ys σ) i j = some (tg, v)) : s6_point σ i j = some (tg, v, σ) := by
  unfold s6_point
  rw [e]
  rfl
theorem s7_point_of {σ : S7} {i j v t : Int32} (e : mX7_point (a7_s σ) (a7_thrown σ) i j = some (v, t)) : s7_point σ i j = some (v, thr7 σ t) := by
  unfold s7_point
  rw [e]
  rfl
theorem s7_thr (σ : S7) (t : Int32) : s7_thrown (thr7 σ t) = some (t, thr7 σ t) := rfl
theorem hp0 {σ : S6} {i j v : Int32} (out : Nat → Int64) (e : s6_point σ i j = some (0, v, σ)) : h_point σ i j out = some (0, σ, vp_updL out (Int32.toNatClampNeg 0) (Int32.toInt64 v)) := by
  unfold h_point
  rw [e]
  rfl
theorem hp1 {σ : S6} {i j v : Int32} (out : Nat → Int64) (e : s6_point σ i j = some (1, v, σ)) : h_point σ i j out = some (1, σ, out) := by
  unfold h_point
  rw [e]
  rfl
theorem hp2 {σ : S6} {i j v : Int32} (out : Nat → Int64) (e : s6_point σ i j = some (2, v, σ)) : h_point σ i j out = some (2, σ, out) := by
  unfold h_point
  rw [e]
  rfl
theorem qq_7_1 {u : Nat → Int32} {z : SL} {v w : Int32} (e6 : s6_point z.1 (u 1) (u 2) = some (1, v, z.1)) (e7 : s7_point z.2.1 (u 1) (u 2) = some (w, thr7 z.2.1 1)) : q_7 u z = some (z.1, thr7 z.2.1 1, z.2.2.1, z.2.2.2) := by
  unfold q_7
  rw [hp1 _ e6, e7]
  rfl
theorem qq_7_2 {u : Nat → Int32} {z : SL} {v w : Int32} (e6 : s6_point z.1 (u 1) (u 2) = some (2, v, z.1)) (e7 : s7_point z.2.1 (u 1) (u 2) = some (w, thr7 z.2.1 2)) : q_7 u z = some (z.1, thr7 z.2.1 2, z.2.2.1, z.2.2.2) := by
  unfold q_7
  rw [hp2 _ e6, e7]
  rfl
