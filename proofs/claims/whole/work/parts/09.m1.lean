def mJ13_compare_74951 (p1 : Int64) (p2 : Int64) : Option (Int32) :=
  if p2 ≤ p1 then if p1 = p2 then some 0 else some 1 else some ((-1))
def lX1_divisor_15  : Nat → (Int64) → (Int64) → (Int32) → Option (Int64)
  | 0, _, _, _ => none
  | n + 1, v1_4, v1_6, v1_8 => if 200 ≤ v1_8 then some v1_4 else if v1_6 = 0 then some v1_4 else if v1_6 = 0 then none else lX1_divisor_15 n v1_6 (v1_4 - v1_4 / v1_6 * v1_6) (v1_8 + 1)
def mX1_divisor (p1 : Int64) (p2 : Int64) : Option (Int64) :=
  (lX1_divisor_15 FU (mabsl_v p1) (mabsl_v p2) 0).bind fun r5 => some r5
def mX1_put (o_bottom : Int64) (o_top : Int64) (p1 : Int64) (p2 : Int64) : Option (Int64 × Int64) :=
  (mX1_divisor p1 p2).bind fun r1 => if p2 = 0 then some (1, 0) else if r1 = 0 then some (1, 0) else if 0 ≤ p2 then if r1 = 0 then none else if r1 = 0 then none else some (p2 / r1, p1 / r1) else if (-r1) = 0 then none else if (-r1) = 0 then none else some (p2 / (-r1), p1 / (-r1))
def mX1_part (o_bottom : Int64) (o_top : Int64) (p1 : Int32) : Option (Int64) :=
  if p1 = 0 then some o_top else some o_bottom
def mX1_add (o_bottom : Int64) (o_top : Int64) (p1 : Int64) (p2 : Int64) : Option (Int64 × Int64) :=
  (mX1_divisor o_bottom p2).bind fun r1 => if p2 = 0 then some (o_bottom, o_top) else if r1 = 0 then some (o_bottom, o_top) else if r1 = 0 then none else if r1 = 0 then none else (mX1_put o_bottom o_top ((o_top * (p2 / r1)) + (p1 * (o_bottom / r1))) (o_bottom * (p2 / r1))).bind fun r6 => some (r6.1, r6.2)
def mX1_copyFrom (o_bottom : Int64) (o_top : Int64) (p1_bottom : Int64) (p1_top : Int64) : Option (Int64 × Int64) :=
  some (p1_bottom, p1_top)
def mX1_compareWith (o_bottom : Int64) (o_top : Int64) (p1_bottom : Int64) (p1_top : Int64) : Option (Int32) :=
  (mJ13_compare_74951 (o_top * p1_bottom) (p1_top * o_bottom)).bind fun r1 => some r1
def mX3_size (o_count : Int32) : Option (Int32) :=
  some o_count
def mX3_xOf (o_xs : Nat → Int32) (p1 : Int32) : Option (Int32) :=
  if p1 < 0 then some 0 else if 5 ≤ p1 then some 0 else if p1 < 0 ∨ 5 ≤ Int32.toNatClampNeg p1 then none else some (o_xs (Int32.toNatClampNeg p1))
def mX3_yOf (o_ys : Nat → Int32) (p1 : Int32) : Option (Int32) :=
  if p1 < 0 then some 0 else if 5 ≤ p1 then some 0 else if p1 < 0 ∨ 5 ≤ Int32.toNatClampNeg p1 then none else some (o_ys (Int32.toNatClampNeg p1))
def lX3_copyFrom_2 (k1_p1_ws : Nat → Int32) (k1_p1_xs : Nat → Int32) (k1_p1_ys : Nat → Int32) : Nat → (Int32) → (Nat → Int32) → (Nat → Int32) → (Nat → Int32) → Option ((Nat → Int32) × (Nat → Int32) × (Nat → Int32))
  | 0, _, _, _, _ => none
  | n + 1, v1_2, u1_o_ws, u1_o_xs, u1_o_ys => if 5 ≤ v1_2 then some (u1_o_ws, u1_o_xs, u1_o_ys) else if v1_2 < 0 ∨ 5 ≤ Int32.toNatClampNeg v1_2 then none else if v1_2 < 0 ∨ 5 ≤ Int32.toNatClampNeg v1_2 then none else if v1_2 < 0 ∨ 5 ≤ Int32.toNatClampNeg v1_2 then none else if v1_2 < 0 ∨ 5 ≤ Int32.toNatClampNeg v1_2 then none else if v1_2 < 0 ∨ 5 ≤ Int32.toNatClampNeg v1_2 then none else if v1_2 < 0 ∨ 5 ≤ Int32.toNatClampNeg v1_2 then none else lX3_copyFrom_2 k1_p1_ws k1_p1_xs k1_p1_ys n (v1_2 + 1) (upd u1_o_ws (Int32.toNatClampNeg v1_2) (k1_p1_ws (Int32.toNatClampNeg v1_2))) (upd u1_o_xs (Int32.toNatClampNeg v1_2) (k1_p1_xs (Int32.toNatClampNeg v1_2))) (upd u1_o_ys (Int32.toNatClampNeg v1_2) (k1_p1_ys (Int32.toNatClampNeg v1_2)))
def mX3_copyFrom (o_count : Int32) (o_degree : Int32) (o_mode : Int32) (o_ws : Nat → Int32) (o_xs : Nat → Int32) (o_ys : Nat → Int32) (p1_count : Int32) (p1_degree : Int32) (p1_mode : Int32) (p1_ws : Nat → Int32) (p1_xs : Nat → Int32) (p1_ys : Nat → Int32) : Option (Int32 × Int32 × Int32 × (Nat → Int32) × (Nat → Int32) × (Nat → Int32)) :=
  (lX3_copyFrom_2 p1_ws p1_xs p1_ys FU 0 o_ws o_xs o_ys).bind fun r9 => some (p1_count, p1_degree, p1_mode, r9.1, r9.2.1, r9.2.2)
def mX3_putX (o_xs : Nat → Int32) (p1 : Int32) (p2 : Int32) : Option (Nat → Int32) :=
  if p1 < 0 then some o_xs else if 5 ≤ p1 then some o_xs else if p1 < 0 ∨ 5 ≤ Int32.toNatClampNeg p1 then none else some (upd o_xs (Int32.toNatClampNeg p1) p2)
def lX3_placeOf_4 (k1_1 : Int32) (k1_o_count : Int32) (k1_o_xs : Nat → Int32) : Nat → (Int32) → (Int32) → Option (Int32)
  | 0, _, _ => none
  | n + 1, v1_2, v1_3 => if k1_o_count ≤ v1_3 then some v1_2 else (mX3_xOf k1_o_xs v1_3).bind fun r3 => (mX3_xOf k1_o_xs k1_1).bind fun r4 => if r4 ≤ r3 then lX3_placeOf_4 k1_1 k1_o_count k1_o_xs n v1_2 (v1_3 + 1) else lX3_placeOf_4 k1_1 k1_o_count k1_o_xs n (v1_2 + 1) (v1_3 + 1)
def mX3_placeOf (o_count : Int32) (o_xs : Nat → Int32) (p1 : Int32) : Option (Int32) :=
  (lX3_placeOf_4 p1 o_count o_xs FU 0 0).bind fun r6 => some r6
def mX3_wOf (o_ws : Nat → Int32) (p1 : Int32) : Option (Int32) :=
  if p1 < 0 then some 0 else if 5 ≤ p1 then some 0 else if p1 < 0 ∨ 5 ≤ Int32.toNatClampNeg p1 then none else some (o_ws (Int32.toNatClampNeg p1))
def mX3_isFull (o_count : Int32) : Option (Int32) :=
  if o_count < 5 then some 0 else some 1
def mX3_has (o_count : Int32) (p1 : Int32) : Option (Int32) :=
  if p1 < 0 then some 0 else if o_count ≤ p1 then some 0 else some 1
def mX3_putY (o_ys : Nat → Int32) (p1 : Int32) (p2 : Int32) : Option (Nat → Int32) :=
  if p1 < 0 then some o_ys else if 5 ≤ p1 then some o_ys else if p1 < 0 ∨ 5 ≤ Int32.toNatClampNeg p1 then none else some (upd o_ys (Int32.toNatClampNeg p1) p2)
def mX3_putW (o_ws : Nat → Int32) (p1 : Int32) (p2 : Int32) : Option (Nat → Int32) :=
  if p1 < 0 then some o_ws else if 5 ≤ p1 then some o_ws else if p1 < 0 ∨ 5 ≤ Int32.toNatClampNeg p1 then none else some (upd o_ws (Int32.toNatClampNeg p1) p2)
def mX3_clear (o_count : Int32) (o_degree : Int32) (o_mode : Int32) : Option (Int32 × Int32 × Int32) :=
  some (0, 0, 0)
def mX3_append (o_count : Int32) (o_ws : Nat → Int32) (o_xs : Nat → Int32) (o_ys : Nat → Int32) (p1 : Int32) (p2 : Int32) (p3 : Int32) : Option (Int32 × (Nat → Int32) × (Nat → Int32) × (Nat → Int32)) :=
  (mX3_isFull o_count).bind fun r1 => if r1 = 0 then (mX3_putX o_xs ((o_count + 1) - 1) p1).bind fun r3 => (mX3_putY o_ys ((o_count + 1) - 1) p2).bind fun r4 => (mX3_putW o_ws ((o_count + 1) - 1) p3).bind fun r5 => some (o_count + 1, r5, r3, r4) else some (o_count, o_ws, o_xs, o_ys)
def lX3_drop_11 (k3_o_count : Int32) : Nat → (Int32) → (Nat → Int32) → (Nat → Int32) → (Nat → Int32) → Option ((Nat → Int32) × (Nat → Int32) × (Nat → Int32))
  | 0, _, _, _, _ => none
  | n + 1, v3_2, u3_o_ws, u3_o_xs, u3_o_ys => if (k3_o_count - 1) ≤ v3_2 then some (u3_o_ws, u3_o_xs, u3_o_ys) else (mX3_xOf u3_o_xs (v3_2 + 1)).bind fun r5 => (mX3_putX u3_o_xs v3_2 r5).bind fun r6 => (mX3_yOf u3_o_ys (v3_2 + 1)).bind fun r7 => (mX3_putY u3_o_ys v3_2 r7).bind fun r8 => (mX3_wOf u3_o_ws (v3_2 + 1)).bind fun r9 => (mX3_putW u3_o_ws v3_2 r9).bind fun r10 => lX3_drop_11 k3_o_count n (v3_2 + 1) r10 r6 r8
def mX3_drop (o_count : Int32) (o_ws : Nat → Int32) (o_xs : Nat → Int32) (o_ys : Nat → Int32) (p1 : Int32) : Option (Int32 × (Nat → Int32) × (Nat → Int32) × (Nat → Int32)) :=
  (mX3_has o_count p1).bind fun r1 => if r1 = 0 then some (o_count, o_ws, o_xs, o_ys) else (lX3_drop_11 o_count FU p1 o_ws o_xs o_ys).bind fun r11 => some (o_count - 1, r11.1, r11.2.1, r11.2.2)
def lX3_find_2 (k1_1 : Int32) (k1_o_count : Int32) (k1_o_xs : Nat → Int32) : Nat → (Int32) → Option (Nat × Int32)
  | 0, _ => none
  | n + 1, v1_2 => if k1_o_count ≤ v1_2 then some ((1 : Nat), v1_2) else (mX3_xOf k1_o_xs v1_2).bind fun r3 => if r3 = k1_1 then some ((0 : Nat), v1_2) else lX3_find_2 k1_1 k1_o_count k1_o_xs n (v1_2 + 1)
def mX3_find (o_count : Int32) (o_xs : Nat → Int32) (p1 : Int32) : Option (Int32) :=
  (lX3_find_2 p1 o_count o_xs FU 0).bind fun r5 => if r5.1 = 0 then some r5.2 else some ((-1))
def mX3_isFreeFor (o_count : Int32) (o_xs : Nat → Int32) (p1 : Int32) (p2 : Int32) : Option (Int32) :=
  (mX3_find o_count o_xs p2).bind fun r1 => if r1 = ((-1)) then some 1 else if r1 = p1 then some 1 else some 0
def lX3_allowsShift_2 (k1_1 : Int32) (k1_o_count : Int32) (k1_o_xs : Nat → Int32) : Nat → (Int32) → Option (Nat)
  | 0, _ => none
  | n + 1, v1_2 => if k1_o_count ≤ v1_2 then some (1 : Nat) else (mX3_xOf k1_o_xs v1_2).bind fun r3 => if (r3 + k1_1) < ((-9)) then some (0 : Nat) else (mX3_xOf k1_o_xs v1_2).bind fun r5 => if (r5 + k1_1) ≤ 9 then lX3_allowsShift_2 k1_1 k1_o_count k1_o_xs n (v1_2 + 1) else some (0 : Nat)
def mX3_allowsShift (o_count : Int32) (o_xs : Nat → Int32) (p1 : Int32) : Option (Int32) :=
  (lX3_allowsShift_2 p1 o_count o_xs FU 0).bind fun r7 => if r7 = 0 then some 0 else some 1
def lX3_putDivided_21 (k4_2 : Int32) (k4_4 : Int32) (k4_o_xs : Nat → Int32) : Nat → (Int64) → (Int32) → Option (Int64)
  | 0, _, _ => none
  | n + 1, v4_5, v4_7 => if k4_2 < v4_7 then some v4_5 else if v4_7 = k4_4 then lX3_putDivided_21 k4_2 k4_4 k4_o_xs n v4_5 (v4_7 + 1) else (mX3_xOf k4_o_xs k4_4).bind fun r7 => (mX3_xOf k4_o_xs v4_7).bind fun r8 => lX3_putDivided_21 k4_2 k4_4 k4_o_xs n (v4_5 * (Int32.toInt64 (r7 - r8))) (v4_7 + 1)
def lX3_putDivided_9 (k2_1 : Int32) (k2_2 : Int32) (k2_o_xs : Nat → Int32) (k2_o_ys : Nat → Int32) : Nat → (Int32) → (Int64) → (Int64) → Option (Int64 × Int64)
  | 0, _, _, _ => none
  | n + 1, v2_4, u2_p3_bottom, u2_p3_top => if k2_2 < v2_4 then some (u2_p3_bottom, u2_p3_top) else (lX3_putDivided_21 k2_2 v2_4 k2_o_xs FU 1 k2_1).bind fun r9 => (mX3_yOf k2_o_ys v2_4).bind fun r10 => (mX1_add u2_p3_bottom u2_p3_top (Int32.toInt64 r10) r9).bind fun r11 => lX3_putDivided_9 k2_1 k2_2 k2_o_xs k2_o_ys n (v2_4 + 1) r11.1 r11.2
def mX3_putDivided (o_xs : Nat → Int32) (o_ys : Nat → Int32) (p3_bottom : Int64) (p3_top : Int64) (p1 : Int32) (p2 : Int32) : Option (Int64 × Int64) :=
  (mX1_put p3_bottom p3_top 0 1).bind fun r1 => (lX3_putDivided_9 p1 p2 o_xs o_ys FU p1 r1.1 r1.2).bind fun r12 => some (r12.1, r12.2)
def mX0_weightOf (o_nodes_count : Int32) (o_weights : Nat → Int64) (p1 : Int32) : Option (Int64) :=
  if p1 < 0 then some 0 else (mX3_size o_nodes_count).bind fun r2 => if r2 ≤ p1 then some 0 else if 5 ≤ p1 then some 0 else if p1 < 0 ∨ 5 ≤ Int32.toNatClampNeg p1 then none else some (o_weights (Int32.toNatClampNeg p1))
def lX0_alternates_4 (k1_o_nodes_count : Int32) (k1_o_order : Nat → Int32) (k1_o_weights : Nat → Int64) : Nat → (Int64) → (Int32) → Option (Nat)
  | 0, _, _ => none
  | n + 1, v1_1, v1_3 => (mX3_size k1_o_nodes_count).bind fun r2 => if r2 ≤ v1_3 then some (1 : Nat) else if 5 ≤ v1_3 then some (1 : Nat) else if v1_3 < 0 ∨ 5 ≤ Int32.toNatClampNeg v1_3 then none else (mX0_weightOf k1_o_nodes_count k1_o_weights (k1_o_order (Int32.toNatClampNeg v1_3))).bind fun r6 => if r6 = 0 then some (0 : Nat) else if v1_3 ≤ 0 then lX0_alternates_4 k1_o_nodes_count k1_o_order k1_o_weights n r6 (v1_3 + 1) else if r6 ≤ 0 then if v1_1 ≤ 0 then if (0 : Int32) = 0 then some (0 : Nat) else lX0_alternates_4 k1_o_nodes_count k1_o_order k1_o_weights n r6 (v1_3 + 1) else if (0 : Int32) = 1 then some (0 : Nat) else lX0_alternates_4 k1_o_nodes_count k1_o_order k1_o_weights n r6 (v1_3 + 1) else if v1_1 ≤ 0 then if (1 : Int32) = 0 then some (0 : Nat) else lX0_alternates_4 k1_o_nodes_count k1_o_order k1_o_weights n r6 (v1_3 + 1) else if (1 : Int32) = 1 then some (0 : Nat) else lX0_alternates_4 k1_o_nodes_count k1_o_order k1_o_weights n r6 (v1_3 + 1)
def mX0_alternates (o_nodes_count : Int32) (o_order : Nat → Int32) (o_weights : Nat → Int64) : Option (Int32) :=
  (lX0_alternates_4 o_nodes_count o_order o_weights FU 0 0).bind fun r16 => if r16 = 0 then some 0 else some 1
def mX0_factor (o_denominator : Nat → Int64) (o_numerator : Nat → Int64) (p1 : Int32) (p2 : Int32) : Option (Int64) :=
  if p2 < 0 then some 0 else if p2 < 5 then if p1 = 0 then if p2 < 0 ∨ 5 ≤ Int32.toNatClampNeg p2 then none else some (o_numerator (Int32.toNatClampNeg p2)) else if p2 < 0 ∨ 5 ≤ Int32.toNatClampNeg p2 then none else some (o_denominator (Int32.toNatClampNeg p2)) else some 0
def lX0_at_5 (k1_1 : Int32) (k1_2 : Int32) (k1_o_denominator : Nat → Int64) (k1_o_numerator : Nat → Int64) : Nat → (Int64) → (Int32) → Option (Int64)
  | 0, _, _ => none
  | n + 1, v1_3, v1_5 => if v1_5 < 0 then some v1_3 else (mX0_factor k1_o_denominator k1_o_numerator k1_1 v1_5).bind fun r3 => lX0_at_5 k1_1 k1_2 k1_o_denominator k1_o_numerator n ((v1_3 * (Int32.toInt64 k1_2)) + r3) (v1_5 + (-1))
def mX0_at (o_denominator : Nat → Int64) (o_numerator : Nat → Int64) (p1 : Int32) (p2 : Int32) : Option (Int64) :=
  (lX0_at_5 p1 p2 o_denominator o_numerator FU 0 4).bind fun r4 => some r4
def lX0_derivativeAt_5 (k1_1 : Int32) (k1_2 : Int32) (k1_o_denominator : Nat → Int64) (k1_o_numerator : Nat → Int64) : Nat → (Int64) → (Int32) → Option (Int64)
  | 0, _, _ => none
  | n + 1, v1_3, v1_5 => if v1_5 ≤ 0 then some v1_3 else (mX0_factor k1_o_denominator k1_o_numerator k1_1 v1_5).bind fun r3 => lX0_derivativeAt_5 k1_1 k1_2 k1_o_denominator k1_o_numerator n ((v1_3 * (Int32.toInt64 k1_2)) + ((Int32.toInt64 v1_5) * r3)) (v1_5 + (-1))
def mX0_derivativeAt (o_denominator : Nat → Int64) (o_numerator : Nat → Int64) (p1 : Int32) (p2 : Int32) : Option (Int64) :=
  (lX0_derivativeAt_5 p1 p2 o_denominator o_numerator FU 0 4).bind fun r4 => some r4
def mX0_kindOf (o_denominator : Nat → Int64) (o_numerator : Nat → Int64) (p1 : Int32) : Option (Int32) :=
  (mX0_at o_denominator o_numerator 1 p1).bind fun r1 => if r1 = 0 then (mX0_at o_denominator o_numerator 0 p1).bind fun r3 => if r3 = 0 then (mX0_derivativeAt o_denominator o_numerator 1 p1).bind fun r5 => if r5 = 0 then some 3 else some 1 else some 2 else some 0
def mX0_putValue (o_denominator : Nat → Int64) (o_numerator : Nat → Int64) (p2_bottom : Int64) (p2_top : Int64) (p1 : Int32) : Option (Int32 × Int64 × Int64) :=
  (mX0_kindOf o_denominator o_numerator p1).bind fun r1 => if r1 = 0 then (mX0_at o_denominator o_numerator 0 p1).bind fun r11 => (mX0_at o_denominator o_numerator 1 p1).bind fun r12 => (mX1_put p2_bottom p2_top r11 r12).bind fun r13 => if r1 = 0 then some (1, r13.1, r13.2) else if r1 = 1 then some (1, r13.1, r13.2) else some (0, r13.1, r13.2) else if r1 = 1 then (mX0_derivativeAt o_denominator o_numerator 0 p1).bind fun r6 => (mX0_derivativeAt o_denominator o_numerator 1 p1).bind fun r7 => (mX1_put p2_bottom p2_top r6 r7).bind fun r8 => if r1 = 0 then some (1, r8.1, r8.2) else if r1 = 1 then some (1, r8.1, r8.2) else some (0, r8.1, r8.2) else if r1 = 0 then some (1, p2_bottom, p2_top) else if r1 = 1 then some (1, p2_bottom, p2_top) else some (0, p2_bottom, p2_top)
def mX0_hidesPoleBehind (o_denominator : Nat → Int64) (o_numerator : Nat → Int64) (p1 : Int32) : Option (Int32) :=
  (mX0_at o_denominator o_numerator 1 p1).bind fun r1 => (mX0_at o_denominator o_numerator 1 (p1 + 1)).bind fun r2 => if r1 = 0 then some 0 else if r2 = 0 then some 0 else if r1 ≤ 0 then if r2 ≤ 0 then if (0 : Int32) = 0 then some 0 else some 1 else if (0 : Int32) = 1 then some 0 else some 1 else if r2 ≤ 0 then if (1 : Int32) = 0 then some 0 else some 1 else if (1 : Int32) = 1 then some 0 else some 1
def lX0_sort_2 (k1_o_nodes_count : Int32) (k1_o_nodes_xs : Nat → Int32) : Nat → (Int32) → (Nat → Int32) → (Nat → Int32) → Option ((Nat → Int32) × (Nat → Int32))
  | 0, _, _, _ => none
  | n + 1, v1_1, u1_o_order, u1_o_sorted => (mX3_size k1_o_nodes_count).bind fun r2 => if r2 ≤ v1_1 then some (u1_o_order, u1_o_sorted) else (mX3_placeOf k1_o_nodes_count k1_o_nodes_xs v1_1).bind fun r4 => if 5 ≤ r4 then lX0_sort_2 k1_o_nodes_count k1_o_nodes_xs n (v1_1 + 1) u1_o_order u1_o_sorted else if r4 < 0 ∨ 5 ≤ Int32.toNatClampNeg r4 then none else (mX3_xOf k1_o_nodes_xs v1_1).bind fun r7 => if r4 < 0 ∨ 5 ≤ Int32.toNatClampNeg r4 then none else lX0_sort_2 k1_o_nodes_count k1_o_nodes_xs n (v1_1 + 1) (upd u1_o_order (Int32.toNatClampNeg r4) v1_1) (upd u1_o_sorted (Int32.toNatClampNeg r4) r7)
def mX0_sort (o_nodes_count : Int32) (o_nodes_xs : Nat → Int32) (o_order : Nat → Int32) (o_sorted : Nat → Int32) : Option ((Nat → Int32) × (Nat → Int32)) :=
  (lX0_sort_2 o_nodes_count o_nodes_xs FU 0 o_order o_sorted).bind fun r9 => some (r9.1, r9.2)
def lX0_pairProduct_23 (k5_3 : Int32) (k5_o_sorted : Nat → Int32) : Nat → (Int64) → (Int32) → Option (Int64)
  | 0, _, _ => none
  | n + 1, v5_1, v5_4 => if k5_3 ≤ v5_4 then some v5_1 else if k5_3 < 0 ∨ 5 ≤ Int32.toNatClampNeg k5_3 then none else if v5_4 < 0 ∨ 5 ≤ Int32.toNatClampNeg v5_4 then none else lX0_pairProduct_23 k5_3 k5_o_sorted n (v5_1 * (Int32.toInt64 ((k5_o_sorted (Int32.toNatClampNeg k5_3)) - (k5_o_sorted (Int32.toNatClampNeg v5_4))))) (v5_4 + 1)
def lX0_pairProduct_4 (k1_o_nodes_count : Int32) (k1_o_sorted : Nat → Int32) : Nat → (Int64) → (Int32) → Option (Int64)
  | 0, _, _ => none
  | n + 1, v1_1, v1_3 => (mX3_size k1_o_nodes_count).bind fun r2 => if r2 ≤ v1_3 then some v1_1 else if 5 ≤ v1_3 then some v1_1 else (lX0_pairProduct_23 v1_3 k1_o_sorted FU v1_1 0).bind fun r9 => lX0_pairProduct_4 k1_o_nodes_count k1_o_sorted n r9 (v1_3 + 1)
def mX0_pairProduct (o_nodes_count : Int32) (o_sorted : Nat → Int32) : Option (Int64) :=
  (lX0_pairProduct_4 o_nodes_count o_sorted FU 1 1).bind fun r10 => some r10
def lX0_scaledWeight_90 (k6_1 : Int32) (k6_5 : Int32) (k6_6 : Int32) (k6_10 : Int32) (k6_o_nodes_xs : Nat → Int32) (k6_o_sorted : Nat → Int32) : Nat → (Int64) → (Int32) → Option (Int64)
  | 0, _, _ => none
  | n + 1, v6_11, v6_13 => if (k6_10 + k6_5) < v6_13 then some v6_11 else if 5 ≤ v6_13 then some v6_11 else if v6_13 = k6_6 then lX0_scaledWeight_90 k6_1 k6_5 k6_6 k6_10 k6_o_nodes_xs k6_o_sorted n (v6_11 * 1) (v6_13 + 1) else (mX3_xOf k6_o_nodes_xs k6_1).bind fun r10 => if v6_13 < 0 ∨ 5 ≤ Int32.toNatClampNeg v6_13 then none else lX0_scaledWeight_90 k6_1 k6_5 k6_6 k6_10 k6_o_nodes_xs k6_o_sorted n (v6_11 * (Int32.toInt64 (r10 - (k6_o_sorted (Int32.toNatClampNeg v6_13))))) (v6_13 + 1)
def lX0_scaledWeight_76 (k4_1 : Int32) (k4_2 : Int64) (k4_5 : Int32) (k4_6 : Int32) (k4_7 : Int32) (k4_o_nodes_xs : Nat → Int32) (k4_o_sorted : Nat → Int32) : Nat → (Int64) → (Int32) → Option (Int64)
  | 0, _, _ => none
  | n + 1, v4_8, v4_10 => if k4_7 < v4_10 then some v4_8 else (lX0_scaledWeight_90 k4_1 k4_5 k4_6 v4_10 k4_o_nodes_xs k4_o_sorted FU 1 v4_10).bind fun r12 => if r12 = 0 then lX0_scaledWeight_76 k4_1 k4_2 k4_5 k4_6 k4_7 k4_o_nodes_xs k4_o_sorted n v4_8 (v4_10 + 1) else if (v4_10 - v4_10 / 2 * 2) = 0 then if r12 = 0 then none else lX0_scaledWeight_76 k4_1 k4_2 k4_5 k4_6 k4_7 k4_o_nodes_xs k4_o_sorted n (v4_8 + (k4_2 / r12)) (v4_10 + 1) else if r12 = 0 then none else lX0_scaledWeight_76 k4_1 k4_2 k4_5 k4_6 k4_7 k4_o_nodes_xs k4_o_sorted n (v4_8 + ((-k4_2) / r12)) (v4_10 + 1)
def mX0_scaledWeight (o_nodes_count : Int32) (o_nodes_degree : Int32) (o_nodes_mode : Int32) (o_nodes_xs : Nat → Int32) (o_sorted : Nat → Int32) (p1 : Int32) (p2 : Int64) : Option (Int64) :=
  (mX3_size o_nodes_count).bind fun r1 => if o_nodes_mode = 0 then (mX3_placeOf o_nodes_count o_nodes_xs p1).bind fun r18 => (lX0_scaledWeight_76 p1 p2 (r1 - 1) r18 (mmini_v r18 ((r1 - 1) - (r1 - 1))) o_nodes_xs o_sorted FU 0 (mmaxi_v 0 (r18 - (r1 - 1)))).bind fun r32 => some r32 else (mX3_placeOf o_nodes_count o_nodes_xs p1).bind fun r3 => (lX0_scaledWeight_76 p1 p2 (mmini_v o_nodes_degree (r1 - 1)) r3 (mmini_v r3 ((r1 - 1) - (mmini_v o_nodes_degree (r1 - 1)))) o_nodes_xs o_sorted FU 0 (mmaxi_v 0 (r3 - (mmini_v o_nodes_degree (r1 - 1))))).bind fun r17 => some r17
def lX0_reckonWeights_10 (k2_1 : Int64) (k2_o_nodes_count : Int32) (k2_o_nodes_mode : Int32) (k2_o_nodes_degree : Int32) (k2_o_nodes_ws : Nat → Int32) (k2_o_nodes_xs : Nat → Int32) (k2_o_sorted : Nat → Int32) : Nat → (Int64) → (Int32) → (Nat → Int64) → Option (Int64 × (Nat → Int64))
  | 0, _, _, _ => none
  | n + 1, v2_3, v2_5, u2_o_weights => (mX3_size k2_o_nodes_count).bind fun r3 => if r3 ≤ v2_5 then some (v2_3, u2_o_weights) else if 5 ≤ v2_5 then some (v2_3, u2_o_weights) else if k2_o_nodes_mode = 2 then (mX3_wOf k2_o_nodes_ws v2_5).bind fun r11 => if v2_5 < 0 ∨ 5 ≤ Int32.toNatClampNeg v2_5 then none else if v2_5 < 0 ∨ 5 ≤ Int32.toNatClampNeg v2_5 then none else (mX1_divisor v2_3 ((vp_updL u2_o_weights (Int32.toNatClampNeg v2_5) (Int32.toInt64 r11)) (Int32.toNatClampNeg v2_5))).bind fun r14 => lX0_reckonWeights_10 k2_1 k2_o_nodes_count k2_o_nodes_mode k2_o_nodes_degree k2_o_nodes_ws k2_o_nodes_xs k2_o_sorted n r14 (v2_5 + 1) (vp_updL u2_o_weights (Int32.toNatClampNeg v2_5) (Int32.toInt64 r11)) else (mX0_scaledWeight k2_o_nodes_count k2_o_nodes_degree k2_o_nodes_mode k2_o_nodes_xs k2_o_sorted v2_5 k2_1).bind fun r7 => if v2_5 < 0 ∨ 5 ≤ Int32.toNatClampNeg v2_5 then none else if v2_5 < 0 ∨ 5 ≤ Int32.toNatClampNeg v2_5 then none else (mX1_divisor v2_3 ((vp_updL u2_o_weights (Int32.toNatClampNeg v2_5) r7) (Int32.toNatClampNeg v2_5))).bind fun r10 => lX0_reckonWeights_10 k2_1 k2_o_nodes_count k2_o_nodes_mode k2_o_nodes_degree k2_o_nodes_ws k2_o_nodes_xs k2_o_sorted n r10 (v2_5 + 1) (vp_updL u2_o_weights (Int32.toNatClampNeg v2_5) r7)
def lX0_reckonWeights_87 (k16_3 : Int64) (k16_o_nodes_count : Int32) : Nat → (Int32) → (Nat → Int64) → Option (Nat → Int64)
  | 0, _, _ => none
  | n + 1, v16_5, u16_o_weights => (mX3_size k16_o_nodes_count).bind fun r17 => if r17 ≤ v16_5 then some u16_o_weights else if 5 ≤ v16_5 then some u16_o_weights else if k16_3 ≤ 1 then some u16_o_weights else if v16_5 < 0 ∨ 5 ≤ Int32.toNatClampNeg v16_5 then none else if k16_3 = 0 then none else if v16_5 < 0 ∨ 5 ≤ Int32.toNatClampNeg v16_5 then none else lX0_reckonWeights_87 k16_3 k16_o_nodes_count n (v16_5 + 1) (vp_updL u16_o_weights (Int32.toNatClampNeg v16_5) ((u16_o_weights (Int32.toNatClampNeg v16_5)) / k16_3))
def mX0_reckonWeights (o_nodes_count : Int32) (o_nodes_degree : Int32) (o_nodes_mode : Int32) (o_nodes_ws : Nat → Int32) (o_nodes_xs : Nat → Int32) (o_sorted : Nat → Int32) (o_weights : Nat → Int64) : Option (Nat → Int64) :=
  (mX0_pairProduct o_nodes_count o_sorted).bind fun r1 => (lX0_reckonWeights_10 r1 o_nodes_count o_nodes_mode o_nodes_degree o_nodes_ws o_nodes_xs o_sorted FU 0 0 o_weights).bind fun r15 => (lX0_reckonWeights_87 r15.1 o_nodes_count FU 0 r15.2).bind fun r24 => some r24
def lX0_reckonProduct_2  : Nat → (Int32) → (Nat → Int64) → Option (Nat → Int64)
  | 0, _, _ => none
  | n + 1, v1_2, u1_o_product => if 5 ≤ v1_2 then some u1_o_product else if v1_2 = 0 then if v1_2 < 0 ∨ 5 ≤ Int32.toNatClampNeg v1_2 then none else lX0_reckonProduct_2 n (v1_2 + 1) (vp_updL u1_o_product (Int32.toNatClampNeg v1_2) 1) else if v1_2 < 0 ∨ 5 ≤ Int32.toNatClampNeg v1_2 then none else lX0_reckonProduct_2 n (v1_2 + 1) (vp_updL u1_o_product (Int32.toNatClampNeg v1_2) 0)
def lX0_reckonProduct_48 (k11_2 : Int32) (k11_o_nodes_xs : Nat → Int32) : Nat → (Int32) → (Nat → Int64) → Option (Nat → Int64)
  | 0, _, _ => none
  | n + 1, v11_3, u11_o_product => if v11_3 < 0 then some u11_o_product else if v11_3 ≤ 0 then (mX3_xOf k11_o_nodes_xs k11_2).bind fun r14 => if v11_3 < 0 ∨ 5 ≤ Int32.toNatClampNeg v11_3 then none else if v11_3 < 0 ∨ 5 ≤ Int32.toNatClampNeg v11_3 then none else lX0_reckonProduct_48 k11_2 k11_o_nodes_xs n (v11_3 + (-1)) (vp_updL u11_o_product (Int32.toNatClampNeg v11_3) (0 - ((Int32.toInt64 r14) * (u11_o_product (Int32.toNatClampNeg v11_3))))) else if (v11_3 - 1) < 0 ∨ 5 ≤ Int32.toNatClampNeg (v11_3 - 1) then none else (mX3_xOf k11_o_nodes_xs k11_2).bind fun r18 => if v11_3 < 0 ∨ 5 ≤ Int32.toNatClampNeg v11_3 then none else if v11_3 < 0 ∨ 5 ≤ Int32.toNatClampNeg v11_3 then none else lX0_reckonProduct_48 k11_2 k11_o_nodes_xs n (v11_3 + (-1)) (vp_updL u11_o_product (Int32.toNatClampNeg v11_3) ((u11_o_product (Int32.toNatClampNeg (v11_3 - 1))) - ((Int32.toInt64 r18) * (u11_o_product (Int32.toNatClampNeg v11_3)))))
def lX0_reckonProduct_30 (k7_1 : Int32) (k7_o_nodes_count : Int32) (k7_o_nodes_xs : Nat → Int32) : Nat → (Int32) → (Nat → Int64) → Option (Nat → Int64)
  | 0, _, _ => none
  | n + 1, v7_2, u7_o_product => (mX3_size k7_o_nodes_count).bind fun r8 => if r8 ≤ v7_2 then some u7_o_product else if v7_2 = k7_1 then lX0_reckonProduct_30 k7_1 k7_o_nodes_count k7_o_nodes_xs n (v7_2 + 1) u7_o_product else (lX0_reckonProduct_48 v7_2 k7_o_nodes_xs FU 4 u7_o_product).bind fun r21 => lX0_reckonProduct_30 k7_1 k7_o_nodes_count k7_o_nodes_xs n (v7_2 + 1) r21
def mX0_reckonProduct (o_nodes_count : Int32) (o_nodes_xs : Nat → Int32) (o_product : Nat → Int64) (p1 : Int32) : Option (Nat → Int64) :=
  (lX0_reckonProduct_2 FU 0 o_product).bind fun r6 => (lX0_reckonProduct_30 p1 o_nodes_count o_nodes_xs FU 0 r6).bind fun r22 => some r22
def lX0_reckonPolynomials_2  : Nat → (Int32) → (Nat → Int64) → (Nat → Int64) → Option ((Nat → Int64) × (Nat → Int64))
  | 0, _, _, _ => none
  | n + 1, v1_1, u1_o_denominator, u1_o_numerator => if 5 ≤ v1_1 then some (u1_o_denominator, u1_o_numerator) else if v1_1 < 0 ∨ 5 ≤ Int32.toNatClampNeg v1_1 then none else if v1_1 < 0 ∨ 5 ≤ Int32.toNatClampNeg v1_1 then none else lX0_reckonPolynomials_2 n (v1_1 + 1) (vp_updL u1_o_denominator (Int32.toNatClampNeg v1_1) 0) (vp_updL u1_o_numerator (Int32.toNatClampNeg v1_1) 0)
def lX0_reckonPolynomials_47 (k10_1 : Int32) (k10_o_nodes_count : Int32) (k10_o_nodes_ys : Nat → Int32) (k10_o_product : Nat → Int64) (k10_o_weights : Nat → Int64) : Nat → (Int32) → (Nat → Int64) → (Nat → Int64) → Option ((Nat → Int64) × (Nat → Int64))
  | 0, _, _, _ => none
  | n + 1, v10_2, u10_o_denominator, u10_o_numerator => if 5 ≤ v10_2 then some (u10_o_denominator, u10_o_numerator) else (mX0_weightOf k10_o_nodes_count k10_o_weights k10_1).bind fun r12 => if v10_2 < 0 ∨ 5 ≤ Int32.toNatClampNeg v10_2 then none else if v10_2 < 0 ∨ 5 ≤ Int32.toNatClampNeg v10_2 then none else (mX3_yOf k10_o_nodes_ys k10_1).bind fun r15 => if v10_2 < 0 ∨ 5 ≤ Int32.toNatClampNeg v10_2 then none else if v10_2 < 0 ∨ 5 ≤ Int32.toNatClampNeg v10_2 then none else if v10_2 < 0 ∨ 5 ≤ Int32.toNatClampNeg v10_2 then none else lX0_reckonPolynomials_47 k10_1 k10_o_nodes_count k10_o_nodes_ys k10_o_product k10_o_weights n (v10_2 + 1) (vp_updL u10_o_denominator (Int32.toNatClampNeg v10_2) ((u10_o_denominator (Int32.toNatClampNeg v10_2)) + (r12 * (k10_o_product (Int32.toNatClampNeg v10_2))))) (vp_updL u10_o_numerator (Int32.toNatClampNeg v10_2) ((u10_o_numerator (Int32.toNatClampNeg v10_2)) + ((r12 * (k10_o_product (Int32.toNatClampNeg v10_2))) * (Int32.toInt64 r15))))
def lX0_reckonPolynomials_29 (k6_o_nodes_count : Int32) (k6_o_nodes_xs : Nat → Int32) (k6_o_nodes_ys : Nat → Int32) (k6_o_weights : Nat → Int64) : Nat → (Int32) → (Nat → Int64) → (Nat → Int64) → (Nat → Int64) → Option ((Nat → Int64) × (Nat → Int64) × (Nat → Int64))
  | 0, _, _, _, _ => none
  | n + 1, v6_1, u6_o_denominator, u6_o_numerator, u6_o_product => (mX3_size k6_o_nodes_count).bind fun r7 => if r7 ≤ v6_1 then some (u6_o_denominator, u6_o_numerator, u6_o_product) else (mX0_reckonProduct k6_o_nodes_count k6_o_nodes_xs u6_o_product v6_1).bind fun r9 => (lX0_reckonPolynomials_47 v6_1 k6_o_nodes_count k6_o_nodes_ys r9 k6_o_weights FU 0 u6_o_denominator u6_o_numerator).bind fun r19 => lX0_reckonPolynomials_29 k6_o_nodes_count k6_o_nodes_xs k6_o_nodes_ys k6_o_weights n (v6_1 + 1) r19.1 r19.2 r9
def mX0_reckonPolynomials (o_denominator : Nat → Int64) (o_nodes_count : Int32) (o_nodes_xs : Nat → Int32) (o_nodes_ys : Nat → Int32) (o_numerator : Nat → Int64) (o_product : Nat → Int64) (o_weights : Nat → Int64) : Option ((Nat → Int64) × (Nat → Int64) × (Nat → Int64)) :=
  (lX0_reckonPolynomials_2 FU 0 o_denominator o_numerator).bind fun r5 => (lX0_reckonPolynomials_29 o_nodes_count o_nodes_xs o_nodes_ys o_weights FU 0 r5.1 r5.2 o_product).bind fun r20 => some (r20.1, r20.2.1, r20.2.2)
def mX0_reckon (o_denominator : Nat → Int64) (o_nodes_count : Int32) (o_nodes_degree : Int32) (o_nodes_mode : Int32) (o_nodes_ws : Nat → Int32) (o_nodes_xs : Nat → Int32) (o_nodes_ys : Nat → Int32) (o_numerator : Nat → Int64) (o_order : Nat → Int32) (o_product : Nat → Int64) (o_sorted : Nat → Int32) (o_weights : Nat → Int64) : Option ((Nat → Int64) × (Nat → Int64) × (Nat → Int32) × (Nat → Int64) × (Nat → Int32) × (Nat → Int64)) :=
  (mX0_sort o_nodes_count o_nodes_xs o_order o_sorted).bind fun r1 => (mX0_reckonWeights o_nodes_count o_nodes_degree o_nodes_mode o_nodes_ws o_nodes_xs r1.2 o_weights).bind fun r2 => (mX0_reckonPolynomials o_denominator o_nodes_count o_nodes_xs o_nodes_ys o_numerator o_product r2).bind fun r3 => some (r3.1, r3.2.1, r1.1, r3.2.2, r1.2, r2)
def mX0_addToRow (o_nodes_count : Int32) (o_nodes_xs : Nat → Int32) (o_weights : Nat → Int64) (p4_bottom : Int64) (p4_top : Int64) (p1 : Int32) (p2 : Int32) (p3 : Int32) : Option (Int64 × Int64) :=
  (mX3_xOf o_nodes_xs p1).bind fun r1 => (mX3_xOf o_nodes_xs p2).bind fun r2 => (mX0_weightOf o_nodes_count o_weights p2).bind fun r3 => (mX0_weightOf o_nodes_count o_weights p1).bind fun r4 => (mX1_add p4_bottom p4_top (r3 * (Int32.toInt64 p3)) (r4 * (Int32.toInt64 (r1 - r2)))).bind fun r5 => some (r5.1, r5.2)
def lX0_putRow_23 (k3_1 : Int32) (k3_o_nodes_count : Int32) (k3_o_nodes_xs : Nat → Int32) (k3_o_weights : Nat → Int64) : Nat → (Int32) → (Int64) → (Int64) → Option (Int64 × Int64)
  | 0, _, _, _ => none
  | n + 1, v3_4, u3_p3_bottom, u3_p3_top => (mX3_size k3_o_nodes_count).bind fun r4 => if r4 ≤ v3_4 then some (u3_p3_bottom, u3_p3_top) else if v3_4 = k3_1 then lX0_putRow_23 k3_1 k3_o_nodes_count k3_o_nodes_xs k3_o_weights n (v3_4 + 1) u3_p3_bottom u3_p3_top else (mX0_addToRow k3_o_nodes_count k3_o_nodes_xs k3_o_weights u3_p3_bottom u3_p3_top k3_1 v3_4 ((-1))).bind fun r7 => lX0_putRow_23 k3_1 k3_o_nodes_count k3_o_nodes_xs k3_o_weights n (v3_4 + 1) r7.1 r7.2
def mX0_putRow (o_nodes_count : Int32) (o_nodes_xs : Nat → Int32) (o_weights : Nat → Int64) (p3_bottom : Int64) (p3_top : Int64) (p1 : Int32) (p2 : Int32) : Option (Int64 × Int64) :=
  (mX1_put p3_bottom p3_top 0 1).bind fun r1 => if p2 = p1 then (lX0_putRow_23 p1 o_nodes_count o_nodes_xs o_weights FU 0 r1.1 r1.2).bind fun r8 => some (r8.1, r8.2) else (mX0_addToRow o_nodes_count o_nodes_xs o_weights r1.1 r1.2 p1 p2 1).bind fun r9 => some (r9.1, r9.2)
def lX0_putSlope_8 (k2_1 : Int32) (k2_o_nodes_count : Int32) (k2_o_nodes_xs : Nat → Int32) (k2_o_nodes_ys : Nat → Int32) (k2_o_weights : Nat → Int64) : Nat → (Int32) → (Int64) → (Int64) → Option (Int64 × Int64)
  | 0, _, _, _ => none
  | n + 1, v2_3, u2_p2_bottom, u2_p2_top => (mX3_size k2_o_nodes_count).bind fun r3 => if r3 ≤ v2_3 then some (u2_p2_bottom, u2_p2_top) else if v2_3 = k2_1 then lX0_putSlope_8 k2_1 k2_o_nodes_count k2_o_nodes_xs k2_o_nodes_ys k2_o_weights n (v2_3 + 1) u2_p2_bottom u2_p2_top else (mX3_yOf k2_o_nodes_ys v2_3).bind fun r6 => (mX3_yOf k2_o_nodes_ys k2_1).bind fun r7 => (mX0_addToRow k2_o_nodes_count k2_o_nodes_xs k2_o_weights u2_p2_bottom u2_p2_top k2_1 v2_3 (r6 - r7)).bind fun r8 => lX0_putSlope_8 k2_1 k2_o_nodes_count k2_o_nodes_xs k2_o_nodes_ys k2_o_weights n (v2_3 + 1) r8.1 r8.2
def mX0_putSlope (o_nodes_count : Int32) (o_nodes_xs : Nat → Int32) (o_nodes_ys : Nat → Int32) (o_weights : Nat → Int64) (p2_bottom : Int64) (p2_top : Int64) (p1 : Int32) : Option (Int64 × Int64) :=
  (mX1_put p2_bottom p2_top 0 1).bind fun r1 => (lX0_putSlope_8 p1 o_nodes_count o_nodes_xs o_nodes_ys o_weights FU 0 r1.1 r1.2).bind fun r9 => some (r9.1, r9.2)
def mX2_size (o_count : Int32) : Option (Int32) :=
  some o_count
def mX2_clear (o_count : Int32) : Option (Int32) :=
  some 0
def mX4_clear (o_count : Int32) : Option (Int32) :=
  some 0
def mX4_put (o_count : Int32) (o_signs : Nat → Int32) (p1 : Int32) : Option (Int32 × (Nat → Int32)) :=
  if 320 ≤ o_count then some (o_count, o_signs) else if o_count < 0 ∨ 320 ≤ Int32.toNatClampNeg o_count then none else some (o_count + 1, upd o_signs (Int32.toNatClampNeg o_count) (vp_nar .char p1))
def lX4_putDigits_5 (k1_1 : Int64) : Nat → (Int64) → (Int32) → Option (Int64)
  | 0, _, _ => none
  | n + 1, v1_3, v1_5 => if 18 ≤ v1_5 then some v1_3 else if v1_3 = 0 then none else if (k1_1 / v1_3) < 10 then some v1_3 else lX4_putDigits_5 k1_1 n (v1_3 * 10) (v1_5 + 1)
def lX4_putDigits_37 (k6_1 : Int64) : Nat → (Int64) → (Int32) → (Int32) → (Nat → Int32) → Option (Int32 × (Nat → Int32))
  | 0, _, _, _, _ => none
  | n + 1, v6_3, v6_5, u6_o_count, u6_o_signs => if 19 ≤ v6_5 then some (u6_o_count, u6_o_signs) else if v6_3 ≤ 0 then some (u6_o_count, u6_o_signs) else if v6_3 = 0 then none else (mX4_put u6_o_count u6_o_signs ((Int32.toUInt32 (Int64.toInt32 (48 + ((k6_1 / v6_3) - (k6_1 / v6_3) / 10 * 10))) % 65536).toInt32)).bind fun r10 => lX4_putDigits_37 k6_1 n (v6_3 / 10) (v6_5 + 1) r10.1 r10.2
def mX4_putDigits (o_count : Int32) (o_signs : Nat → Int32) (p1 : Int64) : Option (Int32 × (Nat → Int32)) :=
  (lX4_putDigits_5 p1 FU 1 0).bind fun r5 => (lX4_putDigits_37 p1 FU r5 0 o_count o_signs).bind fun r11 => some (r11.1, r11.2)
def mX4_putTerm (o_count : Int32) (o_signs : Nat → Int32) (p1 : Int64) (p2 : Int32) : Option (Int32 × (Nat → Int32)) :=
  if p1 = 0 then some (o_count, o_signs) else if 0 ≤ p1 then if o_count ≤ 0 then if (mabsl_v p1) = 1 then if p2 = 0 then (mX4_putDigits o_count o_signs (mabsl_v p1)).bind fun r23 => if p2 ≤ 0 then if p2 ≤ 1 then some (r23.1, r23.2) else (mX4_put r23.1 r23.2 94).bind fun r26 => (mX4_putDigits r26.1 r26.2 (Int32.toInt64 p2)).bind fun r27 => some (r27.1, r27.2) else (mX4_put r23.1 r23.2 120).bind fun r28 => if p2 ≤ 1 then some (r28.1, r28.2) else (mX4_put r28.1 r28.2 94).bind fun r30 => (mX4_putDigits r30.1 r30.2 (Int32.toInt64 p2)).bind fun r31 => some (r31.1, r31.2) else if p2 ≤ 0 then if p2 ≤ 1 then some (o_count, o_signs) else (mX4_put o_count o_signs 94).bind fun r17 => (mX4_putDigits r17.1 r17.2 (Int32.toInt64 p2)).bind fun r18 => some (r18.1, r18.2) else (mX4_put o_count o_signs 120).bind fun r19 => if p2 ≤ 1 then some (r19.1, r19.2) else (mX4_put r19.1 r19.2 94).bind fun r21 => (mX4_putDigits r21.1 r21.2 (Int32.toInt64 p2)).bind fun r22 => some (r22.1, r22.2) else (mX4_putDigits o_count o_signs (mabsl_v p1)).bind fun r5 => if p2 ≤ 0 then if p2 ≤ 1 then some (r5.1, r5.2) else (mX4_put r5.1 r5.2 94).bind fun r8 => (mX4_putDigits r8.1 r8.2 (Int32.toInt64 p2)).bind fun r9 => some (r9.1, r9.2) else (mX4_put r5.1 r5.2 120).bind fun r10 => if p2 ≤ 1 then some (r10.1, r10.2) else (mX4_put r10.1 r10.2 94).bind fun r12 => (mX4_putDigits r12.1 r12.2 (Int32.toInt64 p2)).bind fun r13 => some (r13.1, r13.2) else (mX4_put o_count o_signs 43).bind fun r32 => if (mabsl_v p1) = 1 then if p2 = 0 then (mX4_putDigits r32.1 r32.2 (mabsl_v p1)).bind fun r52 => if p2 ≤ 0 then if p2 ≤ 1 then some (r52.1, r52.2) else (mX4_put r52.1 r52.2 94).bind fun r55 => (mX4_putDigits r55.1 r55.2 (Int32.toInt64 p2)).bind fun r56 => some (r56.1, r56.2) else (mX4_put r52.1 r52.2 120).bind fun r57 => if p2 ≤ 1 then some (r57.1, r57.2) else (mX4_put r57.1 r57.2 94).bind fun r59 => (mX4_putDigits r59.1 r59.2 (Int32.toInt64 p2)).bind fun r60 => some (r60.1, r60.2) else if p2 ≤ 0 then if p2 ≤ 1 then some (r32.1, r32.2) else (mX4_put r32.1 r32.2 94).bind fun r46 => (mX4_putDigits r46.1 r46.2 (Int32.toInt64 p2)).bind fun r47 => some (r47.1, r47.2) else (mX4_put r32.1 r32.2 120).bind fun r48 => if p2 ≤ 1 then some (r48.1, r48.2) else (mX4_put r48.1 r48.2 94).bind fun r50 => (mX4_putDigits r50.1 r50.2 (Int32.toInt64 p2)).bind fun r51 => some (r51.1, r51.2) else (mX4_putDigits r32.1 r32.2 (mabsl_v p1)).bind fun r34 => if p2 ≤ 0 then if p2 ≤ 1 then some (r34.1, r34.2) else (mX4_put r34.1 r34.2 94).bind fun r37 => (mX4_putDigits r37.1 r37.2 (Int32.toInt64 p2)).bind fun r38 => some (r38.1, r38.2) else (mX4_put r34.1 r34.2 120).bind fun r39 => if p2 ≤ 1 then some (r39.1, r39.2) else (mX4_put r39.1 r39.2 94).bind fun r41 => (mX4_putDigits r41.1 r41.2 (Int32.toInt64 p2)).bind fun r42 => some (r42.1, r42.2) else (mX4_put o_count o_signs 45).bind fun r61 => if (mabsl_v p1) = 1 then if p2 = 0 then (mX4_putDigits r61.1 r61.2 (mabsl_v p1)).bind fun r81 => if p2 ≤ 0 then if p2 ≤ 1 then some (r81.1, r81.2) else (mX4_put r81.1 r81.2 94).bind fun r84 => (mX4_putDigits r84.1 r84.2 (Int32.toInt64 p2)).bind fun r85 => some (r85.1, r85.2) else (mX4_put r81.1 r81.2 120).bind fun r86 => if p2 ≤ 1 then some (r86.1, r86.2) else (mX4_put r86.1 r86.2 94).bind fun r88 => (mX4_putDigits r88.1 r88.2 (Int32.toInt64 p2)).bind fun r89 => some (r89.1, r89.2) else if p2 ≤ 0 then if p2 ≤ 1 then some (r61.1, r61.2) else (mX4_put r61.1 r61.2 94).bind fun r75 => (mX4_putDigits r75.1 r75.2 (Int32.toInt64 p2)).bind fun r76 => some (r76.1, r76.2) else (mX4_put r61.1 r61.2 120).bind fun r77 => if p2 ≤ 1 then some (r77.1, r77.2) else (mX4_put r77.1 r77.2 94).bind fun r79 => (mX4_putDigits r79.1 r79.2 (Int32.toInt64 p2)).bind fun r80 => some (r80.1, r80.2) else (mX4_putDigits r61.1 r61.2 (mabsl_v p1)).bind fun r63 => if p2 ≤ 0 then if p2 ≤ 1 then some (r63.1, r63.2) else (mX4_put r63.1 r63.2 94).bind fun r66 => (mX4_putDigits r66.1 r66.2 (Int32.toInt64 p2)).bind fun r67 => some (r67.1, r67.2) else (mX4_put r63.1 r63.2 120).bind fun r68 => if p2 ≤ 1 then some (r68.1, r68.2) else (mX4_put r68.1 r68.2 94).bind fun r70 => (mX4_putDigits r70.1 r70.2 (Int32.toInt64 p2)).bind fun r71 => some (r71.1, r71.2)
def mX4_size (o_count : Int32) : Option (Int32) :=
  some o_count
def mX4_putFraction (o_count : Int32) (o_signs : Nat → Int32) (p1_bottom : Int64) (p1_top : Int64) : Option (Int32 × (Nat → Int32)) :=
  (mX1_part p1_bottom p1_top 0).bind fun r1 => if 0 ≤ r1 then (mX1_part p1_bottom p1_top 0).bind fun r3 => (mX4_putDigits o_count o_signs (mabsl_v r3)).bind fun r4 => (mX1_part p1_bottom p1_top 1).bind fun r5 => if r5 = 1 then some (r4.1, r4.2) else (mX4_put r4.1 r4.2 47).bind fun r7 => (mX1_part p1_bottom p1_top 1).bind fun r8 => (mX4_putDigits r7.1 r7.2 r8).bind fun r9 => some (r9.1, r9.2) else (mX4_put o_count o_signs 45).bind fun r10 => (mX1_part p1_bottom p1_top 0).bind fun r11 => (mX4_putDigits r10.1 r10.2 (mabsl_v r11)).bind fun r12 => (mX1_part p1_bottom p1_top 1).bind fun r13 => if r13 = 1 then some (r12.1, r12.2) else (mX4_put r12.1 r12.2 47).bind fun r15 => (mX1_part p1_bottom p1_top 1).bind fun r16 => (mX4_putDigits r15.1 r15.2 r16).bind fun r17 => some (r17.1, r17.2)
def mX4_signAt (o_count : Int32) (o_signs : Nat → Int32) (p1 : Int32) : Option (Int32) :=
  if p1 < 0 then some 32 else if o_count ≤ p1 then some 32 else if 320 ≤ p1 then some 32 else if p1 < 0 ∨ 320 ≤ Int32.toNatClampNeg p1 then none else if ¬ (vp_nar .char (o_signs (Int32.toNatClampNeg p1)) = (o_signs (Int32.toNatClampNeg p1))) then none else some (o_signs (Int32.toNatClampNeg p1))
def mX5_hasRoomFor (o_filled : Int32) (p1 : Int32) : Option (Int32) :=
  if 400 < (o_filled + p1) then some 0 else some 1
def lX5_append_3 (k1_1 : Int32) : Nat → (Int32) → (Nat → Int32) → (Int32) → Option ((Nat → Int32) × Int32)
  | 0, _, _, _ => none
  | n + 1, v1_2, u1_o_bytes, u1_o_filled => if v1_2 < 0 then some (u1_o_bytes, u1_o_filled) else if 400 ≤ u1_o_filled then some (u1_o_bytes, u1_o_filled) else if u1_o_filled < 0 ∨ 400 ≤ Int32.toNatClampNeg u1_o_filled then none else lX5_append_3 k1_1 n (v1_2 + (-8)) (upd u1_o_bytes (Int32.toNatClampNeg u1_o_filled) (((k1_1.toUInt32 >>> (Int32.toUInt32 v1_2 &&& Int32.toUInt32 31)).toInt32) &&& 255)) (u1_o_filled + 1)
def mX5_append (o_bytes : Nat → Int32) (o_filled : Int32) (p1 : Int32) : Option ((Nat → Int32) × Int32) :=
  (lX5_append_3 p1 FU 24 o_bytes o_filled).bind fun r5 => some (r5.1, r5.2)
def mX5_filled (o_filled : Int32) : Option (Int32) :=
  some o_filled
def mX5_faultKind (o_faultKind : Int32) : Option (Int32) :=
  some o_faultKind
def mX5_faultPosition (o_faultPosition : Int32) : Option (Int32) :=
  some o_faultPosition
def mX5_clear (o_filled : Int32) : Option (Int32) :=
  some 0
def mX5_byteAt (o_bytes : Nat → Int32) (o_length : Int32) (p1 : Int32) : Option (Int32) :=
  if p1 < 0 then some 0 else if o_length ≤ p1 then some 0 else if 400 ≤ p1 then some 0 else if p1 < 0 ∨ 400 ≤ Int32.toNatClampNeg p1 then none else some (o_bytes (Int32.toNatClampNeg p1))
def mX5_isLetter (p1 : Int32) : Option (Int32) :=
  if p1 < 97 then some 0 else if 122 < p1 then some 0 else some 1
def mX5_isDigit (p1 : Int32) : Option (Int32) :=
  if p1 < 48 then some 0 else if 57 < p1 then some 0 else some 1
def lX5_step_13 (k1_o_length : Int32) (k1_o_bytes : Nat → Int32) : Nat → (Int32) → (Int32) → Option (Int32)
  | 0, _, _ => none
  | n + 1, v1_1, u1_o_start => if k1_o_length ≤ v1_1 then some u1_o_start else (mX5_byteAt k1_o_bytes k1_o_length v1_1).bind fun r3 => if r3 = 32 then lX5_step_13 k1_o_length k1_o_bytes n (v1_1 + 1) (v1_1 + 1) else (mX5_byteAt k1_o_bytes k1_o_length v1_1).bind fun r5 => if r5 = 10 then lX5_step_13 k1_o_length k1_o_bytes n (v1_1 + 1) (v1_1 + 1) else some u1_o_start
def lX5_step_89 (k11_2 : Int32) (k11_3 : Int32) (k11_o_length : Int32) (k11_o_bytes : Nat → Int32) : Nat → (Int32) → (Int32) → Option (Int32)
  | 0, _, _ => none
  | n + 1, v11_4, u11_o_next => if k11_o_length ≤ v11_4 then some u11_o_next else if k11_2 = 0 then if k11_3 = 0 then some u11_o_next else (mX5_byteAt k11_o_bytes k11_o_length v11_4).bind fun r15 => (mX5_isDigit r15).bind fun r16 => if r16 = 0 then some u11_o_next else lX5_step_89 k11_2 k11_3 k11_o_length k11_o_bytes n (v11_4 + 1) (v11_4 + 1) else (mX5_byteAt k11_o_bytes k11_o_length v11_4).bind fun r18 => (mX5_isLetter r18).bind fun r19 => if r19 = 0 then if k11_3 = 0 then some u11_o_next else (mX5_byteAt k11_o_bytes k11_o_length v11_4).bind fun r22 => (mX5_isDigit r22).bind fun r23 => if r23 = 0 then some u11_o_next else lX5_step_89 k11_2 k11_3 k11_o_length k11_o_bytes n (v11_4 + 1) (v11_4 + 1) else lX5_step_89 k11_2 k11_3 k11_o_length k11_o_bytes n (v11_4 + 1) (v11_4 + 1)
def mX5_step (o_bytes : Nat → Int32) (o_length : Int32) (o_next : Int32) (o_start : Int32) (o_token : Int32) : Option (Int32 × Int32 × Int32) :=
  (lX5_step_13 o_length o_bytes FU o_next o_next).bind fun r7 => (mX5_byteAt o_bytes o_length r7).bind fun r8 => (mX5_isLetter r8).bind fun r9 => (mX5_isDigit r8).bind fun r10 => (lX5_step_89 r9 r10 o_length o_bytes FU (r7 + 1) (r7 + 1)).bind fun r25 => if r7 < o_length then if r9 = 0 then if r10 = 0 then if r8 = 45 then some (r25, r7, 3) else if r8 = 59 then some (r25, r7, 4) else some (r25, r7, 0) else if (r25 - r7) ≤ 2 then some (r25, r7, 2) else some (r25, r7, 0) else if (r25 - r7) ≤ 8 then some (r25, r7, 1) else some (r25, r7, 0) else some (r25, r7, 5)
def mX5_fail (o_faultKind : Int32) (o_faultPosition : Int32) (o_start : Int32) (o_token : Int32) (p1 : Int32) : Option (Int32 × Int32 × Int32) :=
  if o_token = 0 then some (0, 1, o_start) else some (0, p1, o_start)
def mX5_readSemicolon (o_bytes : Nat → Int32) (o_faultKind : Int32) (o_faultPosition : Int32) (o_length : Int32) (o_next : Int32) (o_start : Int32) (o_token : Int32) : Option (Int32 × Int32 × Int32 × Int32 × Int32 × Int32) :=
  (mX5_step o_bytes o_length o_next o_start o_token).bind fun r1 => if r1.2.2 = 4 then some (1, o_faultKind, o_faultPosition, r1.1, r1.2.1, r1.2.2) else (mX5_fail o_faultKind o_faultPosition r1.2.1 r1.2.2 2).bind fun r3 => if r3.1 = 0 then some (0, r3.2.1, r3.2.2, r1.1, r1.2.1, r1.2.2) else some (1, r3.2.1, r3.2.2, r1.1, r1.2.1, r1.2.2)
def lX5_readDigits_23 (k2_o_length : Int32) (k2_o_next : Int32) (k2_o_bytes : Nat → Int32) : Nat → (Int32) → (Int32) → Option (Int32)
  | 0, _, _ => none
  | n + 1, v2_2, v2_3 => if k2_o_next ≤ v2_3 then some v2_2 else (mX5_byteAt k2_o_bytes k2_o_length v2_3).bind fun r4 => lX5_readDigits_23 k2_o_length k2_o_next k2_o_bytes n (((v2_2 * 10) + r4) - 48) (v2_3 + 1)
def mX5_readDigits (o_bytes : Nat → Int32) (o_faultKind : Int32) (o_faultPosition : Int32) (o_length : Int32) (o_next : Int32) (o_start : Int32) (o_token : Int32) (p1 : Int32) : Option (Int32 × Int32 × Int32) :=
  if o_token = 2 then (lX5_readDigits_23 o_length o_next o_bytes FU 0 o_start).bind fun r5 => if r5 ≤ p1 then some (r5, o_faultKind, o_faultPosition) else (mX5_fail o_faultKind o_faultPosition o_start o_token 3).bind fun r7 => some (0, r7.2.1, r7.2.2) else (mX5_fail o_faultKind o_faultPosition o_start o_token 2).bind fun r8 => some (0, r8.2.1, r8.2.2)
def mX5_readSigned (o_bytes : Nat → Int32) (o_faultKind : Int32) (o_faultPosition : Int32) (o_length : Int32) (o_next : Int32) (o_start : Int32) (o_token : Int32) (p1 : Int32) : Option (Int32 × Int32 × Int32 × Int32 × Int32 × Int32) :=
  (mX5_step o_bytes o_length o_next o_start o_token).bind fun r1 => if r1.2.2 = 3 then (mX5_step o_bytes o_length r1.1 r1.2.1 r1.2.2).bind fun r3 => (mX5_readDigits o_bytes o_faultKind o_faultPosition o_length r3.1 r3.2.1 r3.2.2 p1).bind fun r4 => some (-r4.1, r4.2.1, r4.2.2, r3.1, r3.2.1, r3.2.2) else (mX5_readDigits o_bytes o_faultKind o_faultPosition o_length r1.1 r1.2.1 r1.2.2 p1).bind fun r5 => some (r5.1, r5.2.1, r5.2.2, r1.1, r1.2.1, r1.2.2)
def mX6_feed (o_text_bytes : Nat → Int32) (o_text_filled : Int32) (p1 : Int32) (p2 : Int32) (p3 : Int32) (p4 : Int32) (p5 : Int32) : Option (Int32 × (Nat → Int32) × Int32) :=
  (mX5_hasRoomFor o_text_filled 20).bind fun r1 => if r1 = 0 then some ((-2), o_text_bytes, o_text_filled) else (mX5_append o_text_bytes o_text_filled p1).bind fun r3 => (mX5_append r3.1 r3.2 p2).bind fun r4 => (mX5_append r4.1 r4.2 p3).bind fun r5 => (mX5_append r5.1 r5.2 p4).bind fun r6 => (mX5_append r6.1 r6.2 p5).bind fun r7 => (mX5_filled r7.2).bind fun r8 => some (r8, r7.1, r7.2)
def mX6_errorKind (o_text_faultKind : Int32) : Option (Int32) :=
  (mX5_faultKind o_text_faultKind).bind fun r1 => some r1
def mX6_errorPosition (o_text_faultPosition : Int32) : Option (Int32) :=
  (mX5_faultPosition o_text_faultPosition).bind fun r1 => some r1
def mX6_points (o_present_nodes_count : Int32) : Option (Int32) :=
  (mX3_size o_present_nodes_count).bind fun r1 => some r1
def mX6_mode (o_present_nodes_mode : Int32) : Option (Int32) :=
  some o_present_nodes_mode
def mX6_degree (o_present_nodes_degree : Int32) : Option (Int32) :=
  some o_present_nodes_degree
def mX6_isAlternating (o_present_nodes_count : Int32) (o_present_order : Nat → Int32) (o_present_weights : Nat → Int64) : Option (Int32) :=
  (mX0_alternates o_present_nodes_count o_present_order o_present_weights).bind fun r1 => if ¬ (r1 = 0 ∨ r1 = 1) then none else some r1
def lX6_weightSum_4 (k1_o_present_nodes_count : Int32) (k1_o_present_weights : Nat → Int64) : Nat → (Int64) → (Int32) → Option (Int64)
  | 0, _, _ => none
  | n + 1, v1_1, v1_3 => (mX3_size k1_o_present_nodes_count).bind fun r2 => if r2 ≤ v1_3 then some v1_1 else (mX0_weightOf k1_o_present_nodes_count k1_o_present_weights v1_3).bind fun r4 => lX6_weightSum_4 k1_o_present_nodes_count k1_o_present_weights n (v1_1 + r4) (v1_3 + 1)
def mX6_weightSum (o_present_nodes_count : Int32) (o_present_weights : Nat → Int64) : Option (Int64) :=
  (lX6_weightSum_4 o_present_nodes_count o_present_weights FU 0 0).bind fun r5 => some r5
def lX6_degreeOf_2 (k1_1 : Int32) (k1_o_present_denominator : Nat → Int64) (k1_o_present_numerator : Nat → Int64) : Nat → (Int32) → Option (Nat × Int32)
  | 0, _ => none
  | n + 1, v1_2 => if v1_2 < 0 then some ((1 : Nat), v1_2) else (mX0_factor k1_o_present_denominator k1_o_present_numerator k1_1 v1_2).bind fun r3 => if r3 = 0 then lX6_degreeOf_2 k1_1 k1_o_present_denominator k1_o_present_numerator n (v1_2 + (-1)) else some ((0 : Nat), v1_2)
def mX6_degreeOf (o_present_denominator : Nat → Int64) (o_present_numerator : Nat → Int64) (p1 : Int32) : Option (Int32) :=
  (lX6_degreeOf_2 p1 o_present_denominator o_present_numerator FU 4).bind fun r5 => if r5.1 = 0 then some r5.2 else some ((-1))
def mX6_meets (o_answer_bottom : Int64) (o_answer_top : Int64) (o_present_denominator : Nat → Int64) (o_present_nodes_xs : Nat → Int32) (o_present_nodes_ys : Nat → Int32) (o_present_numerator : Nat → Int64) (p1 : Int32) : Option (Int32 × Int64 × Int64) :=
  (mX3_xOf o_present_nodes_xs p1).bind fun r1 => (mX0_putValue o_present_denominator o_present_numerator o_answer_bottom o_answer_top r1).bind fun r2 => if r2.1 = 0 then some (0, r2.2.1, r2.2.2) else (mX1_part r2.2.1 r2.2.2 1).bind fun r4 => if r4 = 1 then (mX1_part r2.2.1 r2.2.2 0).bind fun r6 => (mX3_yOf o_present_nodes_ys p1).bind fun r7 => if r6 = (Int32.toInt64 r7) then some (1, r2.2.1, r2.2.2) else some (0, r2.2.1, r2.2.2) else some (0, r2.2.1, r2.2.2)
def lX6_missed_4 (k1_o_present_denominator : Nat → Int64) (k1_o_present_nodes_count : Int32) (k1_o_present_nodes_xs : Nat → Int32) (k1_o_present_nodes_ys : Nat → Int32) (k1_o_present_numerator : Nat → Int64) : Nat → (Int32) → (Int32) → (Int64) → (Int64) → Option (Int32 × Int64 × Int64)
  | 0, _, _, _, _ => none
  | n + 1, v1_1, v1_2, u1_o_answer_bottom, u1_o_answer_top => (mX3_size k1_o_present_nodes_count).bind fun r2 => if r2 ≤ v1_2 then some (v1_1, u1_o_answer_bottom, u1_o_answer_top) else (mX6_meets u1_o_answer_bottom u1_o_answer_top k1_o_present_denominator k1_o_present_nodes_xs k1_o_present_nodes_ys k1_o_present_numerator v1_2).bind fun r4 => if r4.1 = 0 then lX6_missed_4 k1_o_present_denominator k1_o_present_nodes_count k1_o_present_nodes_xs k1_o_present_nodes_ys k1_o_present_numerator n (v1_1 + 1) (v1_2 + 1) r4.2.1 r4.2.2 else lX6_missed_4 k1_o_present_denominator k1_o_present_nodes_count k1_o_present_nodes_xs k1_o_present_nodes_ys k1_o_present_numerator n v1_1 (v1_2 + 1) r4.2.1 r4.2.2
def mX6_missed (o_answer_bottom : Int64) (o_answer_top : Int64) (o_present_denominator : Nat → Int64) (o_present_nodes_count : Int32) (o_present_nodes_xs : Nat → Int32) (o_present_nodes_ys : Nat → Int32) (o_present_numerator : Nat → Int64) : Option (Int32 × Int64 × Int64) :=
  (lX6_missed_4 o_present_denominator o_present_nodes_count o_present_nodes_xs o_present_nodes_ys o_present_numerator FU 0 0 o_answer_bottom o_answer_top).bind fun r6 => some (r6.1, r6.2.1, r6.2.2)
def lX6_many_5 (k1_1 : Int32) (k1_o_present_denominator : Nat → Int64) (k1_o_present_numerator : Nat → Int64) : Nat → (Int32) → (Int32) → Option (Int32)
  | 0, _, _ => none
  | n + 1, v1_2, v1_3 => if 12 < v1_3 then some v1_2 else (mX0_kindOf k1_o_present_denominator k1_o_present_numerator v1_3).bind fun r3 => if r3 = k1_1 then lX6_many_5 k1_1 k1_o_present_denominator k1_o_present_numerator n (v1_2 + 1) (v1_3 + 1) else lX6_many_5 k1_1 k1_o_present_denominator k1_o_present_numerator n v1_2 (v1_3 + 1)
def mX6_many (o_present_denominator : Nat → Int64) (o_present_numerator : Nat → Int64) (p1 : Int32) : Option (Int32) :=
  (lX6_many_5 p1 o_present_denominator o_present_numerator FU 0 ((-12))).bind fun r5 => some r5
def lX6_hiddenPoles_5 (k1_o_present_denominator : Nat → Int64) (k1_o_present_numerator : Nat → Int64) : Nat → (Int32) → (Int32) → Option (Int32)
  | 0, _, _ => none
  | n + 1, v1_1, v1_2 => if 12 ≤ v1_2 then some v1_1 else (mX0_hidesPoleBehind k1_o_present_denominator k1_o_present_numerator v1_2).bind fun r3 => if r3 = 0 then lX6_hiddenPoles_5 k1_o_present_denominator k1_o_present_numerator n v1_1 (v1_2 + 1) else lX6_hiddenPoles_5 k1_o_present_denominator k1_o_present_numerator n (v1_1 + 1) (v1_2 + 1)
def mX6_hiddenPoles (o_present_denominator : Nat → Int64) (o_present_numerator : Nat → Int64) : Option (Int32) :=
  (lX6_hiddenPoles_5 o_present_denominator o_present_numerator FU 0 ((-12))).bind fun r5 => some r5
def lX6_write_9 (k2_1 : Int32) (k2_o_present_denominator : Nat → Int64) (k2_o_present_numerator : Nat → Int64) : Nat → (Int32) → (Int32) → (Nat → Int32) → Option (Int32 × (Nat → Int32))
  | 0, _, _, _ => none
  | n + 1, v2_2, u2_o_output_count, u2_o_output_signs => if v2_2 < 0 then some (u2_o_output_count, u2_o_output_signs) else (mX0_factor k2_o_present_denominator k2_o_present_numerator k2_1 v2_2).bind fun r4 => (mX4_putTerm u2_o_output_count u2_o_output_signs r4 v2_2).bind fun r5 => lX6_write_9 k2_1 k2_o_present_denominator k2_o_present_numerator n (v2_2 + (-1)) r5.1 r5.2
def mX6_write (o_output_count : Int32) (o_output_signs : Nat → Int32) (o_present_denominator : Nat → Int64) (o_present_numerator : Nat → Int64) (p1 : Int32) : Option (Int32 × Int32 × (Nat → Int32)) :=
  (mX4_clear o_output_count).bind fun r1 => (lX6_write_9 p1 o_present_denominator o_present_numerator FU 4 r1 o_output_signs).bind fun r6 => (mX4_size r6.1).bind fun r7 => if r7 = 0 then (mX4_put r6.1 r6.2 48).bind fun r10 => (mX4_size r10.1).bind fun r11 => some (r11, r10.1, r10.2) else (mX4_size r6.1).bind fun r9 => some (r9, r6.1, r6.2)
def lX6_writeValues_10 (k2_o_present_denominator : Nat → Int64) (k2_o_present_numerator : Nat → Int64) : Nat → (Int32) → (Int64) → (Int64) → (Int32) → (Nat → Int32) → Option (Int64 × Int64 × Int32 × (Nat → Int32))
  | 0, _, _, _, _, _ => none
  | n + 1, v2_1, u2_o_answer_bottom, u2_o_answer_top, u2_o_output_count, u2_o_output_signs => if 3 < v2_1 then some (u2_o_answer_bottom, u2_o_answer_top, u2_o_output_count, u2_o_output_signs) else if v2_1 ≤ ((-3)) then (mX0_putValue k2_o_present_denominator k2_o_present_numerator u2_o_answer_bottom u2_o_answer_top v2_1).bind fun r5 => if r5.1 = 0 then (mX0_kindOf k2_o_present_denominator k2_o_present_numerator v2_1).bind fun r7 => if r7 = 2 then (mX4_put u2_o_output_count u2_o_output_signs 33).bind fun r10 => lX6_writeValues_10 k2_o_present_denominator k2_o_present_numerator n (v2_1 + 1) r5.2.1 r5.2.2 r10.1 r10.2 else (mX4_put u2_o_output_count u2_o_output_signs 63).bind fun r9 => lX6_writeValues_10 k2_o_present_denominator k2_o_present_numerator n (v2_1 + 1) r5.2.1 r5.2.2 r9.1 r9.2 else (mX4_putFraction u2_o_output_count u2_o_output_signs r5.2.1 r5.2.2).bind fun r11 => lX6_writeValues_10 k2_o_present_denominator k2_o_present_numerator n (v2_1 + 1) r5.2.1 r5.2.2 r11.1 r11.2 else (mX4_put u2_o_output_count u2_o_output_signs 32).bind fun r12 => (mX0_putValue k2_o_present_denominator k2_o_present_numerator u2_o_answer_bottom u2_o_answer_top v2_1).bind fun r13 => if r13.1 = 0 then (mX0_kindOf k2_o_present_denominator k2_o_present_numerator v2_1).bind fun r15 => if r15 = 2 then (mX4_put r12.1 r12.2 33).bind fun r18 => lX6_writeValues_10 k2_o_present_denominator k2_o_present_numerator n (v2_1 + 1) r13.2.1 r13.2.2 r18.1 r18.2 else (mX4_put r12.1 r12.2 63).bind fun r17 => lX6_writeValues_10 k2_o_present_denominator k2_o_present_numerator n (v2_1 + 1) r13.2.1 r13.2.2 r17.1 r17.2 else (mX4_putFraction r12.1 r12.2 r13.2.1 r13.2.2).bind fun r19 => lX6_writeValues_10 k2_o_present_denominator k2_o_present_numerator n (v2_1 + 1) r13.2.1 r13.2.2 r19.1 r19.2
def mX6_writeValues (o_answer_bottom : Int64) (o_answer_top : Int64) (o_output_count : Int32) (o_output_signs : Nat → Int32) (o_present_denominator : Nat → Int64) (o_present_numerator : Nat → Int64) : Option (Int32 × Int64 × Int64 × Int32 × (Nat → Int32)) :=
  (mX4_clear o_output_count).bind fun r1 => (lX6_writeValues_10 o_present_denominator o_present_numerator FU ((-3)) o_answer_bottom o_answer_top r1 o_output_signs).bind fun r20 => (mX4_size r20.2.2.1).bind fun r21 => some (r21, r20.1, r20.2.1, r20.2.2.1, r20.2.2.2)
def mX6_tryPlace (o_present_nodes_count : Int32) (o_present_nodes_degree : Int32) (o_present_nodes_mode : Int32) (o_present_nodes_ws : Nat → Int32) (o_present_nodes_xs : Nat → Int32) (o_present_nodes_ys : Nat → Int32) (o_trial_denominator : Nat → Int64) (o_trial_nodes_count : Int32) (o_trial_nodes_degree : Int32) (o_trial_nodes_mode : Int32) (o_trial_nodes_ws : Nat → Int32) (o_trial_nodes_xs : Nat → Int32) (o_trial_nodes_ys : Nat → Int32) (o_trial_numerator : Nat → Int64) (o_trial_order : Nat → Int32) (o_trial_product : Nat → Int64) (o_trial_sorted : Nat → Int32) (o_trial_weights : Nat → Int64) (p1 : Int32) (p2 : Int32) : Option ((Nat → Int64) × Int32 × Int32 × Int32 × (Nat → Int32) × (Nat → Int32) × (Nat → Int32) × (Nat → Int64) × (Nat → Int32) × (Nat → Int64) × (Nat → Int32) × (Nat → Int64)) :=
  (mX3_copyFrom o_trial_nodes_count o_trial_nodes_degree o_trial_nodes_mode o_trial_nodes_ws o_trial_nodes_xs o_trial_nodes_ys o_present_nodes_count o_present_nodes_degree o_present_nodes_mode o_present_nodes_ws o_present_nodes_xs o_present_nodes_ys).bind fun r1 => (mX3_putX r1.2.2.2.2.1 p1 p2).bind fun r2 => (mX0_reckon o_trial_denominator r1.1 r1.2.1 r1.2.2.1 r1.2.2.2.1 r2 r1.2.2.2.2.2 o_trial_numerator o_trial_order o_trial_product o_trial_sorted o_trial_weights).bind fun r3 => some (r3.1, r1.1, r1.2.1, r1.2.2.1, r1.2.2.2.1, r2, r1.2.2.2.2.2, r3.2.1, r3.2.2.1, r3.2.2.2.1, r3.2.2.2.2.1, r3.2.2.2.2.2)
