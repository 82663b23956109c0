/-! Steps 23, 24: row, slope. -/
theorem ozt_m (C : Int) (X wt : Int → Int) (k j : Int) : ozt C X wt (fun _ => -1) k j = -1 * ozt C X wt (fun _ => 1) k j := by
  unfold ozt
  by_cases e : j = k
  · rw [if_pos e, if_pos e, Int.mul_zero]
  · rw [if_neg e, if_neg e]
    show wt j * -1 * _ = -1 * (wt j * 1 * _)
    rw [Int.mul_neg, Int.neg_mul, Int.neg_mul, Int.one_mul]