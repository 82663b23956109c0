theorem vpu (out : Nat → Int64) (v : Int64) : vp_updL out (Int32.toNatClampNeg 0) v 0 = v := rfl
theorem qq_7_0 {u : Nat → Int32} {z : SL} {v : Int32} (e6 : s6_point z.1 (u 1) (u 2) = some (0, v, z.1)) (e7 : s7_point z.2.1 (u 1) (u 2) = some (v, thr7 z.2.1 0)) : q_7 u z = some (z.1, thr7 z.2.1 0, vp_updL z.2.2.1 (Int32.toNatClampNeg 0) (Int32.toInt64 v), z.2.2.2) := by
  unfold q_7
  rw [hp0 _ e6, e7]
  exact if_pos (vpu z.2.2.1 (Int32.toInt64 v))
