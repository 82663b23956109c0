/-! Five points: the weights against the polynomial of the outer points. -/
def onW (w : Int) (Z : Int → Int) (x : Int) : Int := if w = 4 then 1 else if w = 3 then Z 0 - Z 4 else (x - Z 3) * (x - Z 4) - (x - Z 0) * (x - Z 4) + (x - Z 0) * (x - Z 1)
section TOZ
variable {Z : Int → Int} {V d01 d02 d03 d04 d12 d13 d14 d23 d24 d34 : Nat}
theorem to4_0 (h01 : Z 1 - Z 0 = (d01 : Int)) (g01 : Z 0 - Z 1 = -(d01 : Int)) (h02 : Z 2 - Z 0 = (d02 : Int)) (g02 : Z 0 - Z 2 = -(d02 : Int)) (h03 : Z 3 - Z 0 = (d03 : Int)) (g03 : Z 0 - Z 3 = -(d03 : Int)) (h04 : Z 4 - Z 0 = (d04 : Int)) (g04 : Z 0 - Z 4 = -(d04 : Int)) (h12 : Z 2 - Z 1 = (d12 : Int)) (g12 : Z 1 - Z 2 = -(d12 : Int)) (h13 : Z 3 - Z 1 = (d13 : Int)) (g13 : Z 1 - Z 3 = -(d13 : Int)) (h14 : Z 4 - Z 1 = (d14 : Int)) (g14 : Z 1 - Z 4 = -(d14 : Int)) (h23 : Z 3 - Z 2 = (d23 : Int)) (g23 : Z 2 - Z 3 = -(d23 : Int)) (h24 : Z 4 - Z 2 = (d24 : Int)) (g24 : Z 2 - Z 4 = -(d24 : Int)) (h34 : Z 4 - Z 3 = (d34 : Int)) (g34 : Z 3 - Z 4 = -(d34 : Int)) (hV : V = d01 * d02 * d03 * d04 * d12 * d13 * d14 * d23 * d24 * d34) : rzz 5 Z V 4 0 * pdz (fun q => if q = 0 then 1 else Z 0 - Z q) 5 0 = V * onW 4 Z (Z 0) := by
  have u0 : ((V / (d01 * d02 * d03 * d04) : Nat) : Int) * ((d01 : Int) * (d02 : Int) * (d03 : Int) * (d04 : Int)) = V := by
    have e : V / (d01 * d02 * d03 * d04) * (d01 * d02 * d03 * d04) = V := Nat.div_mul_cancel ⟨d12 * d13 * d14 * d23 * d24 * d34, by rw [hV]; grind⟩
    have f := congrArg (fun n : Nat => (n : Int)) e
    try dsimp only at f
    simp only [Int.natCast_mul] at f
    exact f
  rw [rz4_0 (Z := Z) (V := V) h01 g01 h02 g02 h03 g03 h04 g04 h12 g12 h13 g13 h14 g14 h23 g23 h24 g24 h34 g34]
  have ep : pdz (fun q => if q = 0 then 1 else Z 0 - Z q) 5 0 = (1 * ((Z 0 - Z 1) * ((Z 0 - Z 2) * ((Z 0 - Z 3) * ((Z 0 - Z 4) * 1))))) := rfl
  have eo : onW 4 Z (Z 0) = 1 := rfl
  have dd : (d02 : Int) = d01 + d12 ∧ (d03 : Int) = d01 + d12 + d23 ∧ (d04 : Int) = d01 + d12 + d23 + d34 ∧ (d13 : Int) = d12 + d23 ∧ (d14 : Int) = d12 + d23 + d34 ∧ (d24 : Int) = d23 + d34 := by omega
  rw [ep, eo]
  simp only [g01, g02, g03, g04]
  unfold gq4_0
  try simp only [Int.natCast_add]
  generalize ((V / (d01 * d02 * d03 * d04) : Nat) : Int) = y0 at *
  clear hV
  grind
theorem to4_1 (h01 : Z 1 - Z 0 = (d01 : Int)) (g01 : Z 0 - Z 1 = -(d01 : Int)) (h02 : Z 2 - Z 0 = (d02 : Int)) (g02 : Z 0 - Z 2 = -(d02 : Int)) (h03 : Z 3 - Z 0 = (d03 : Int)) (g03 : Z 0 - Z 3 = -(d03 : Int)) (h04 : Z 4 - Z 0 = (d04 : Int)) (g04 : Z 0 - Z 4 = -(d04 : Int)) (h12 : Z 2 - Z 1 = (d12 : Int)) (g12 : Z 1 - Z 2 = -(d12 : Int)) (h13 : Z 3 - Z 1 = (d13 : Int)) (g13 : Z 1 - Z 3 = -(d13 : Int)) (h14 : Z 4 - Z 1 = (d14 : Int)) (g14 : Z 1 - Z 4 = -(d14 : Int)) (h23 : Z 3 - Z 2 = (d23 : Int)) (g23 : Z 2 - Z 3 = -(d23 : Int)) (h24 : Z 4 - Z 2 = (d24 : Int)) (g24 : Z 2 - Z 4 = -(d24 : Int)) (h34 : Z 4 - Z 3 = (d34 : Int)) (g34 : Z 3 - Z 4 = -(d34 : Int)) (hV : V = d01 * d02 * d03 * d04 * d12 * d13 * d14 * d23 * d24 * d34) : rzz 5 Z V 4 1 * pdz (fun q => if q = 1 then 1 else Z 1 - Z q) 5 0 = V * onW 4 Z (Z 1) := by
  have u0 : ((V / (d01 * d12 * d13 * d14) : Nat) : Int) * ((d01 : Int) * (d12 : Int) * (d13 : Int) * (d14 : Int)) = V := by
    have e : V / (d01 * d12 * d13 * d14) * (d01 * d12 * d13 * d14) = V := Nat.div_mul_cancel ⟨d02 * d03 * d04 * d23 * d24 * d34, by rw [hV]; grind⟩
    have f := congrArg (fun n : Nat => (n : Int)) e
    try dsimp only at f
    simp only [Int.natCast_mul] at f
    exact f
  rw [rz4_1 (Z := Z) (V := V) h01 g01 h02 g02 h03 g03 h04 g04 h12 g12 h13 g13 h14 g14 h23 g23 h24 g24 h34 g34]
  have ep : pdz (fun q => if q = 1 then 1 else Z 1 - Z q) 5 0 = ((Z 1 - Z 0) * (1 * ((Z 1 - Z 2) * ((Z 1 - Z 3) * ((Z 1 - Z 4) * 1))))) := rfl
  have eo : onW 4 Z (Z 1) = 1 := rfl
  have dd : (d02 : Int) = d01 + d12 ∧ (d03 : Int) = d01 + d12 + d23 ∧ (d04 : Int) = d01 + d12 + d23 + d34 ∧ (d13 : Int) = d12 + d23 ∧ (d14 : Int) = d12 + d23 + d34 ∧ (d24 : Int) = d23 + d34 := by omega
  rw [ep, eo]
  simp only [h01, g12, g13, g14]
  unfold gq4_1
  try simp only [Int.natCast_add]
  generalize ((V / (d01 * d12 * d13 * d14) : Nat) : Int) = y0 at *
  clear hV
  grind
theorem to4_2 (h01 : Z 1 - Z 0 = (d01 : Int)) (g01 : Z 0 - Z 1 = -(d01 : Int)) (h02 : Z 2 - Z 0 = (d02 : Int)) (g02 : Z 0 - Z 2 = -(d02 : Int)) (h03 : Z 3 - Z 0 = (d03 : Int)) (g03 : Z 0 - Z 3 = -(d03 : Int)) (h04 : Z 4 - Z 0 = (d04 : Int)) (g04 : Z 0 - Z 4 = -(d04 : Int)) (h12 : Z 2 - Z 1 = (d12 : Int)) (g12 : Z 1 - Z 2 = -(d12 : Int)) (h13 : Z 3 - Z 1 = (d13 : Int)) (g13 : Z 1 - Z 3 = -(d13 : Int)) (h14 : Z 4 - Z 1 = (d14 : Int)) (g14 : Z 1 - Z 4 = -(d14 : Int)) (h23 : Z 3 - Z 2 = (d23 : Int)) (g23 : Z 2 - Z 3 = -(d23 : Int)) (h24 : Z 4 - Z 2 = (d24 : Int)) (g24 : Z 2 - Z 4 = -(d24 : Int)) (h34 : Z 4 - Z 3 = (d34 : Int)) (g34 : Z 3 - Z 4 = -(d34 : Int)) (hV : V = d01 * d02 * d03 * d04 * d12 * d13 * d14 * d23 * d24 * d34) : rzz 5 Z V 4 2 * pdz (fun q => if q = 2 then 1 else Z 2 - Z q) 5 0 = V * onW 4 Z (Z 2) := by
  have u0 : ((V / (d02 * d12 * d23 * d24) : Nat) : Int) * ((d02 : Int) * (d12 : Int) * (d23 : Int) * (d24 : Int)) = V := by
    have e : V / (d02 * d12 * d23 * d24) * (d02 * d12 * d23 * d24) = V := Nat.div_mul_cancel ⟨d01 * d03 * d04 * d13 * d14 * d34, by rw [hV]; grind⟩
    have f := congrArg (fun n : Nat => (n : Int)) e
    try dsimp only at f
    simp only [Int.natCast_mul] at f
    exact f
  rw [rz4_2 (Z := Z) (V := V) h01 g01 h02 g02 h03 g03 h04 g04 h12 g12 h13 g13 h14 g14 h23 g23 h24 g24 h34 g34]
  have ep : pdz (fun q => if q = 2 then 1 else Z 2 - Z q) 5 0 = ((Z 2 - Z 0) * ((Z 2 - Z 1) * (1 * ((Z 2 - Z 3) * ((Z 2 - Z 4) * 1))))) := rfl
  have eo : onW 4 Z (Z 2) = 1 := rfl
  have dd : (d02 : Int) = d01 + d12 ∧ (d03 : Int) = d01 + d12 + d23 ∧ (d04 : Int) = d01 + d12 + d23 + d34 ∧ (d13 : Int) = d12 + d23 ∧ (d14 : Int) = d12 + d23 + d34 ∧ (d24 : Int) = d23 + d34 := by omega
  rw [ep, eo]
  simp only [h02, h12, g23, g24]
  unfold gq4_2
  try simp only [Int.natCast_add]
  generalize ((V / (d02 * d12 * d23 * d24) : Nat) : Int) = y0 at *
  clear hV
  grind
theorem to4_3 (h01 : Z 1 - Z 0 = (d01 : Int)) (g01 : Z 0 - Z 1 = -(d01 : Int)) (h02 : Z 2 - Z 0 = (d02 : Int)) (g02 : Z 0 - Z 2 = -(d02 : Int)) (h03 : Z 3 - Z 0 = (d03 : Int)) (g03 : Z 0 - Z 3 = -(d03 : Int)) (h04 : Z 4 - Z 0 = (d04 : Int)) (g04 : Z 0 - Z 4 = -(d04 : Int)) (h12 : Z 2 - Z 1 = (d12 : Int)) (g12 : Z 1 - Z 2 = -(d12 : Int)) (h13 : Z 3 - Z 1 = (d13 : Int)) (g13 : Z 1 - Z 3 = -(d13 : Int)) (h14 : Z 4 - Z 1 = (d14 : Int)) (g14 : Z 1 - Z 4 = -(d14 : Int)) (h23 : Z 3 - Z 2 = (d23 : Int)) (g23 : Z 2 - Z 3 = -(d23 : Int)) (h24 : Z 4 - Z 2 = (d24 : Int)) (g24 : Z 2 - Z 4 = -(d24 : Int)) (h34 : Z 4 - Z 3 = (d34 : Int)) (g34 : Z 3 - Z 4 = -(d34 : Int)) (hV : V = d01 * d02 * d03 * d04 * d12 * d13 * d14 * d23 * d24 * d34) : rzz 5 Z V 4 3 * pdz (fun q => if q = 3 then 1 else Z 3 - Z q) 5 0 = V * onW 4 Z (Z 3) := by
  have u0 : ((V / (d03 * d13 * d23 * d34) : Nat) : Int) * ((d03 : Int) * (d13 : Int) * (d23 : Int) * (d34 : Int)) = V := by
    have e : V / (d03 * d13 * d23 * d34) * (d03 * d13 * d23 * d34) = V := Nat.div_mul_cancel ⟨d01 * d02 * d04 * d12 * d14 * d24, by rw [hV]; grind⟩
    have f := congrArg (fun n : Nat => (n : Int)) e
    try dsimp only at f
    simp only [Int.natCast_mul] at f
    exact f
  rw [rz4_3 (Z := Z) (V := V) h01 g01 h02 g02 h03 g03 h04 g04 h12 g12 h13 g13 h14 g14 h23 g23 h24 g24 h34 g34]
  have ep : pdz (fun q => if q = 3 then 1 else Z 3 - Z q) 5 0 = ((Z 3 - Z 0) * ((Z 3 - Z 1) * ((Z 3 - Z 2) * (1 * ((Z 3 - Z 4) * 1))))) := rfl
  have eo : onW 4 Z (Z 3) = 1 := rfl
  have dd : (d02 : Int) = d01 + d12 ∧ (d03 : Int) = d01 + d12 + d23 ∧ (d04 : Int) = d01 + d12 + d23 + d34 ∧ (d13 : Int) = d12 + d23 ∧ (d14 : Int) = d12 + d23 + d34 ∧ (d24 : Int) = d23 + d34 := by omega
  rw [ep, eo]
  simp only [h03, h13, h23, g34]
  unfold gq4_3
  try simp only [Int.natCast_add]
  generalize ((V / (d03 * d13 * d23 * d34) : Nat) : Int) = y0 at *
  clear hV
  grind
theorem to4_4 (h01 : Z 1 - Z 0 = (d01 : Int)) (g01 : Z 0 - Z 1 = -(d01 : Int)) (h02 : Z 2 - Z 0 = (d02 : Int)) (g02 : Z 0 - Z 2 = -(d02 : Int)) (h03 : Z 3 - Z 0 = (d03 : Int)) (g03 : Z 0 - Z 3 = -(d03 : Int)) (h04 : Z 4 - Z 0 = (d04 : Int)) (g04 : Z 0 - Z 4 = -(d04 : Int)) (h12 : Z 2 - Z 1 = (d12 : Int)) (g12 : Z 1 - Z 2 = -(d12 : Int)) (h13 : Z 3 - Z 1 = (d13 : Int)) (g13 : Z 1 - Z 3 = -(d13 : Int)) (h14 : Z 4 - Z 1 = (d14 : Int)) (g14 : Z 1 - Z 4 = -(d14 : Int)) (h23 : Z 3 - Z 2 = (d23 : Int)) (g23 : Z 2 - Z 3 = -(d23 : Int)) (h24 : Z 4 - Z 2 = (d24 : Int)) (g24 : Z 2 - Z 4 = -(d24 : Int)) (h34 : Z 4 - Z 3 = (d34 : Int)) (g34 : Z 3 - Z 4 = -(d34 : Int)) (hV : V = d01 * d02 * d03 * d04 * d12 * d13 * d14 * d23 * d24 * d34) : rzz 5 Z V 4 4 * pdz (fun q => if q = 4 then 1 else Z 4 - Z q) 5 0 = V * onW 4 Z (Z 4) := by
  have u0 : ((V / (d04 * d14 * d24 * d34) : Nat) : Int) * ((d04 : Int) * (d14 : Int) * (d24 : Int) * (d34 : Int)) = V := by
    have e : V / (d04 * d14 * d24 * d34) * (d04 * d14 * d24 * d34) = V := Nat.div_mul_cancel ⟨d01 * d02 * d03 * d12 * d13 * d23, by rw [hV]; grind⟩
    have f := congrArg (fun n : Nat => (n : Int)) e
    try dsimp only at f
    simp only [Int.natCast_mul] at f
    exact f
  rw [rz4_4 (Z := Z) (V := V) h01 g01 h02 g02 h03 g03 h04 g04 h12 g12 h13 g13 h14 g14 h23 g23 h24 g24 h34 g34]
  have ep : pdz (fun q => if q = 4 then 1 else Z 4 - Z q) 5 0 = ((Z 4 - Z 0) * ((Z 4 - Z 1) * ((Z 4 - Z 2) * ((Z 4 - Z 3) * (1 * 1))))) := rfl
  have eo : onW 4 Z (Z 4) = 1 := rfl
  have dd : (d02 : Int) = d01 + d12 ∧ (d03 : Int) = d01 + d12 + d23 ∧ (d04 : Int) = d01 + d12 + d23 + d34 ∧ (d13 : Int) = d12 + d23 ∧ (d14 : Int) = d12 + d23 + d34 ∧ (d24 : Int) = d23 + d34 := by omega
  rw [ep, eo]
  simp only [h04, h14, h24, h34]
  unfold gq4_4
  try simp only [Int.natCast_add]
  generalize ((V / (d04 * d14 * d24 * d34) : Nat) : Int) = y0 at *
  clear hV
  grind
theorem to3_0 (h01 : Z 1 - Z 0 = (d01 : Int)) (g01 : Z 0 - Z 1 = -(d01 : Int)) (h02 : Z 2 - Z 0 = (d02 : Int)) (g02 : Z 0 - Z 2 = -(d02 : Int)) (h03 : Z 3 - Z 0 = (d03 : Int)) (g03 : Z 0 - Z 3 = -(d03 : Int)) (h04 : Z 4 - Z 0 = (d04 : Int)) (g04 : Z 0 - Z 4 = -(d04 : Int)) (h12 : Z 2 - Z 1 = (d12 : Int)) (g12 : Z 1 - Z 2 = -(d12 : Int)) (h13 : Z 3 - Z 1 = (d13 : Int)) (g13 : Z 1 - Z 3 = -(d13 : Int)) (h14 : Z 4 - Z 1 = (d14 : Int)) (g14 : Z 1 - Z 4 = -(d14 : Int)) (h23 : Z 3 - Z 2 = (d23 : Int)) (g23 : Z 2 - Z 3 = -(d23 : Int)) (h24 : Z 4 - Z 2 = (d24 : Int)) (g24 : Z 2 - Z 4 = -(d24 : Int)) (h34 : Z 4 - Z 3 = (d34 : Int)) (g34 : Z 3 - Z 4 = -(d34 : Int)) (hV : V = d01 * d02 * d03 * d04 * d12 * d13 * d14 * d23 * d24 * d34) : rzz 5 Z V 3 0 * pdz (fun q => if q = 0 then 1 else Z 0 - Z q) 5 0 = V * onW 3 Z (Z 0) := by
  have u0 : ((V / (d01 * d02 * d03) : Nat) : Int) * ((d01 : Int) * (d02 : Int) * (d03 : Int)) = V := by
    have e : V / (d01 * d02 * d03) * (d01 * d02 * d03) = V := Nat.div_mul_cancel ⟨d04 * d12 * d13 * d14 * d23 * d24 * d34, by rw [hV]; grind⟩
    have f := congrArg (fun n : Nat => (n : Int)) e
    try dsimp only at f
    simp only [Int.natCast_mul] at f
    exact f
  rw [rz3_0 (Z := Z) (V := V) h01 g01 h02 g02 h03 g03 h04 g04 h12 g12 h13 g13 h14 g14 h23 g23 h24 g24 h34 g34]
  have ep : pdz (fun q => if q = 0 then 1 else Z 0 - Z q) 5 0 = (1 * ((Z 0 - Z 1) * ((Z 0 - Z 2) * ((Z 0 - Z 3) * ((Z 0 - Z 4) * 1))))) := rfl
  have eo : onW 3 Z (Z 0) = Z 0 - Z 4 := rfl
  have dd : (d02 : Int) = d01 + d12 ∧ (d03 : Int) = d01 + d12 + d23 ∧ (d04 : Int) = d01 + d12 + d23 + d34 ∧ (d13 : Int) = d12 + d23 ∧ (d14 : Int) = d12 + d23 + d34 ∧ (d24 : Int) = d23 + d34 := by omega
  rw [ep, eo]
  simp only [g01, g02, g03, g04]
  unfold gq3_0
  try simp only [Int.natCast_add]
  generalize ((V / (d01 * d02 * d03) : Nat) : Int) = y0 at *
  clear hV
  grind
theorem to3_1 (h01 : Z 1 - Z 0 = (d01 : Int)) (g01 : Z 0 - Z 1 = -(d01 : Int)) (h02 : Z 2 - Z 0 = (d02 : Int)) (g02 : Z 0 - Z 2 = -(d02 : Int)) (h03 : Z 3 - Z 0 = (d03 : Int)) (g03 : Z 0 - Z 3 = -(d03 : Int)) (h04 : Z 4 - Z 0 = (d04 : Int)) (g04 : Z 0 - Z 4 = -(d04 : Int)) (h12 : Z 2 - Z 1 = (d12 : Int)) (g12 : Z 1 - Z 2 = -(d12 : Int)) (h13 : Z 3 - Z 1 = (d13 : Int)) (g13 : Z 1 - Z 3 = -(d13 : Int)) (h14 : Z 4 - Z 1 = (d14 : Int)) (g14 : Z 1 - Z 4 = -(d14 : Int)) (h23 : Z 3 - Z 2 = (d23 : Int)) (g23 : Z 2 - Z 3 = -(d23 : Int)) (h24 : Z 4 - Z 2 = (d24 : Int)) (g24 : Z 2 - Z 4 = -(d24 : Int)) (h34 : Z 4 - Z 3 = (d34 : Int)) (g34 : Z 3 - Z 4 = -(d34 : Int)) (hV : V = d01 * d02 * d03 * d04 * d12 * d13 * d14 * d23 * d24 * d34) : rzz 5 Z V 3 1 * pdz (fun q => if q = 1 then 1 else Z 1 - Z q) 5 0 = V * onW 3 Z (Z 1) := by
  have u0 : ((V / (d01 * d12 * d13) : Nat) : Int) * ((d01 : Int) * (d12 : Int) * (d13 : Int)) = V := by
    have e : V / (d01 * d12 * d13) * (d01 * d12 * d13) = V := Nat.div_mul_cancel ⟨d02 * d03 * d04 * d14 * d23 * d24 * d34, by rw [hV]; grind⟩
    have f := congrArg (fun n : Nat => (n : Int)) e
    try dsimp only at f
    simp only [Int.natCast_mul] at f
    exact f
  have u1 : ((V / (d12 * d13 * d14) : Nat) : Int) * ((d12 : Int) * (d13 : Int) * (d14 : Int)) = V := by
    have e : V / (d12 * d13 * d14) * (d12 * d13 * d14) = V := Nat.div_mul_cancel ⟨d01 * d02 * d03 * d04 * d23 * d24 * d34, by rw [hV]; grind⟩
    have f := congrArg (fun n : Nat => (n : Int)) e
    try dsimp only at f
    simp only [Int.natCast_mul] at f
    exact f
  rw [rz3_1 (Z := Z) (V := V) h01 g01 h02 g02 h03 g03 h04 g04 h12 g12 h13 g13 h14 g14 h23 g23 h24 g24 h34 g34]
  have ep : pdz (fun q => if q = 1 then 1 else Z 1 - Z q) 5 0 = ((Z 1 - Z 0) * (1 * ((Z 1 - Z 2) * ((Z 1 - Z 3) * ((Z 1 - Z 4) * 1))))) := rfl
  have eo : onW 3 Z (Z 1) = Z 0 - Z 4 := rfl
  have dd : (d02 : Int) = d01 + d12 ∧ (d03 : Int) = d01 + d12 + d23 ∧ (d04 : Int) = d01 + d12 + d23 + d34 ∧ (d13 : Int) = d12 + d23 ∧ (d14 : Int) = d12 + d23 + d34 ∧ (d24 : Int) = d23 + d34 := by omega
  rw [ep, eo]
  simp only [h01, g12, g13, g14, g04]
  unfold gq3_1
  try simp only [Int.natCast_add]
  generalize ((V / (d01 * d12 * d13) : Nat) : Int) = y0 at *
  generalize ((V / (d12 * d13 * d14) : Nat) : Int) = y1 at *
  clear hV
  grind
theorem to3_2 (h01 : Z 1 - Z 0 = (d01 : Int)) (g01 : Z 0 - Z 1 = -(d01 : Int)) (h02 : Z 2 - Z 0 = (d02 : Int)) (g02 : Z 0 - Z 2 = -(d02 : Int)) (h03 : Z 3 - Z 0 = (d03 : Int)) (g03 : Z 0 - Z 3 = -(d03 : Int)) (h04 : Z 4 - Z 0 = (d04 : Int)) (g04 : Z 0 - Z 4 = -(d04 : Int)) (h12 : Z 2 - Z 1 = (d12 : Int)) (g12 : Z 1 - Z 2 = -(d12 : Int)) (h13 : Z 3 - Z 1 = (d13 : Int)) (g13 : Z 1 - Z 3 = -(d13 : Int)) (h14 : Z 4 - Z 1 = (d14 : Int)) (g14 : Z 1 - Z 4 = -(d14 : Int)) (h23 : Z 3 - Z 2 = (d23 : Int)) (g23 : Z 2 - Z 3 = -(d23 : Int)) (h24 : Z 4 - Z 2 = (d24 : Int)) (g24 : Z 2 - Z 4 = -(d24 : Int)) (h34 : Z 4 - Z 3 = (d34 : Int)) (g34 : Z 3 - Z 4 = -(d34 : Int)) (hV : V = d01 * d02 * d03 * d04 * d12 * d13 * d14 * d23 * d24 * d34) : rzz 5 Z V 3 2 * pdz (fun q => if q = 2 then 1 else Z 2 - Z q) 5 0 = V * onW 3 Z (Z 2) := by
  have u0 : ((V / (d02 * d12 * d23) : Nat) : Int) * ((d02 : Int) * (d12 : Int) * (d23 : Int)) = V := by
    have e : V / (d02 * d12 * d23) * (d02 * d12 * d23) = V := Nat.div_mul_cancel ⟨d01 * d03 * d04 * d13 * d14 * d24 * d34, by rw [hV]; grind⟩
    have f := congrArg (fun n : Nat => (n : Int)) e
    try dsimp only at f
    simp only [Int.natCast_mul] at f
    exact f
  have u1 : ((V / (d12 * d23 * d24) : Nat) : Int) * ((d12 : Int) * (d23 : Int) * (d24 : Int)) = V := by
    have e : V / (d12 * d23 * d24) * (d12 * d23 * d24) = V := Nat.div_mul_cancel ⟨d01 * d02 * d03 * d04 * d13 * d14 * d34, by rw [hV]; grind⟩
    have f := congrArg (fun n : Nat => (n : Int)) e
    try dsimp only at f
    simp only [Int.natCast_mul] at f
    exact f
  rw [rz3_2 (Z := Z) (V := V) h01 g01 h02 g02 h03 g03 h04 g04 h12 g12 h13 g13 h14 g14 h23 g23 h24 g24 h34 g34]
  have ep : pdz (fun q => if q = 2 then 1 else Z 2 - Z q) 5 0 = ((Z 2 - Z 0) * ((Z 2 - Z 1) * (1 * ((Z 2 - Z 3) * ((Z 2 - Z 4) * 1))))) := rfl
  have eo : onW 3 Z (Z 2) = Z 0 - Z 4 := rfl
  have dd : (d02 : Int) = d01 + d12 ∧ (d03 : Int) = d01 + d12 + d23 ∧ (d04 : Int) = d01 + d12 + d23 + d34 ∧ (d13 : Int) = d12 + d23 ∧ (d14 : Int) = d12 + d23 + d34 ∧ (d24 : Int) = d23 + d34 := by omega
  rw [ep, eo]
  simp only [h02, h12, g23, g24, g04]
  unfold gq3_2
  try simp only [Int.natCast_add]
  generalize ((V / (d02 * d12 * d23) : Nat) : Int) = y0 at *
  generalize ((V / (d12 * d23 * d24) : Nat) : Int) = y1 at *
  clear hV
  grind
theorem to3_3 (h01 : Z 1 - Z 0 = (d01 : Int)) (g01 : Z 0 - Z 1 = -(d01 : Int)) (h02 : Z 2 - Z 0 = (d02 : Int)) (g02 : Z 0 - Z 2 = -(d02 : Int)) (h03 : Z 3 - Z 0 = (d03 : Int)) (g03 : Z 0 - Z 3 = -(d03 : Int)) (h04 : Z 4 - Z 0 = (d04 : Int)) (g04 : Z 0 - Z 4 = -(d04 : Int)) (h12 : Z 2 - Z 1 = (d12 : Int)) (g12 : Z 1 - Z 2 = -(d12 : Int)) (h13 : Z 3 - Z 1 = (d13 : Int)) (g13 : Z 1 - Z 3 = -(d13 : Int)) (h14 : Z 4 - Z 1 = (d14 : Int)) (g14 : Z 1 - Z 4 = -(d14 : Int)) (h23 : Z 3 - Z 2 = (d23 : Int)) (g23 : Z 2 - Z 3 = -(d23 : Int)) (h24 : Z 4 - Z 2 = (d24 : Int)) (g24 : Z 2 - Z 4 = -(d24 : Int)) (h34 : Z 4 - Z 3 = (d34 : Int)) (g34 : Z 3 - Z 4 = -(d34 : Int)) (hV : V = d01 * d02 * d03 * d04 * d12 * d13 * d14 * d23 * d24 * d34) : rzz 5 Z V 3 3 * pdz (fun q => if q = 3 then 1 else Z 3 - Z q) 5 0 = V * onW 3 Z (Z 3) := by
  have u0 : ((V / (d03 * d13 * d23) : Nat) : Int) * ((d03 : Int) * (d13 : Int) * (d23 : Int)) = V := by
    have e : V / (d03 * d13 * d23) * (d03 * d13 * d23) = V := Nat.div_mul_cancel ⟨d01 * d02 * d04 * d12 * d14 * d24 * d34, by rw [hV]; grind⟩
    have f := congrArg (fun n : Nat => (n : Int)) e
    try dsimp only at f
    simp only [Int.natCast_mul] at f
    exact f
  have u1 : ((V / (d13 * d23 * d34) : Nat) : Int) * ((d13 : Int) * (d23 : Int) * (d34 : Int)) = V := by
    have e : V / (d13 * d23 * d34) * (d13 * d23 * d34) = V := Nat.div_mul_cancel ⟨d01 * d02 * d03 * d04 * d12 * d14 * d24, by rw [hV]; grind⟩
    have f := congrArg (fun n : Nat => (n : Int)) e
    try dsimp only at f
    simp only [Int.natCast_mul] at f
    exact f
  rw [rz3_3 (Z := Z) (V := V) h01 g01 h02 g02 h03 g03 h04 g04 h12 g12 h13 g13 h14 g14 h23 g23 h24 g24 h34 g34]
  have ep : pdz (fun q => if q = 3 then 1 else Z 3 - Z q) 5 0 = ((Z 3 - Z 0) * ((Z 3 - Z 1) * ((Z 3 - Z 2) * (1 * ((Z 3 - Z 4) * 1))))) := rfl
  have eo : onW 3 Z (Z 3) = Z 0 - Z 4 := rfl
  have dd : (d02 : Int) = d01 + d12 ∧ (d03 : Int) = d01 + d12 + d23 ∧ (d04 : Int) = d01 + d12 + d23 + d34 ∧ (d13 : Int) = d12 + d23 ∧ (d14 : Int) = d12 + d23 + d34 ∧ (d24 : Int) = d23 + d34 := by omega
  rw [ep, eo]
  simp only [h03, h13, h23, g34, g04]
  unfold gq3_3
  try simp only [Int.natCast_add]
  generalize ((V / (d03 * d13 * d23) : Nat) : Int) = y0 at *
  generalize ((V / (d13 * d23 * d34) : Nat) : Int) = y1 at *
  clear hV
  grind
theorem to3_4 (h01 : Z 1 - Z 0 = (d01 : Int)) (g01 : Z 0 - Z 1 = -(d01 : Int)) (h02 : Z 2 - Z 0 = (d02 : Int)) (g02 : Z 0 - Z 2 = -(d02 : Int)) (h03 : Z 3 - Z 0 = (d03 : Int)) (g03 : Z 0 - Z 3 = -(d03 : Int)) (h04 : Z 4 - Z 0 = (d04 : Int)) (g04 : Z 0 - Z 4 = -(d04 : Int)) (h12 : Z 2 - Z 1 = (d12 : Int)) (g12 : Z 1 - Z 2 = -(d12 : Int)) (h13 : Z 3 - Z 1 = (d13 : Int)) (g13 : Z 1 - Z 3 = -(d13 : Int)) (h14 : Z 4 - Z 1 = (d14 : Int)) (g14 : Z 1 - Z 4 = -(d14 : Int)) (h23 : Z 3 - Z 2 = (d23 : Int)) (g23 : Z 2 - Z 3 = -(d23 : Int)) (h24 : Z 4 - Z 2 = (d24 : Int)) (g24 : Z 2 - Z 4 = -(d24 : Int)) (h34 : Z 4 - Z 3 = (d34 : Int)) (g34 : Z 3 - Z 4 = -(d34 : Int)) (hV : V = d01 * d02 * d03 * d04 * d12 * d13 * d14 * d23 * d24 * d34) : rzz 5 Z V 3 4 * pdz (fun q => if q = 4 then 1 else Z 4 - Z q) 5 0 = V * onW 3 Z (Z 4) := by
  have u0 : ((V / (d14 * d24 * d34) : Nat) : Int) * ((d14 : Int) * (d24 : Int) * (d34 : Int)) = V := by
    have e : V / (d14 * d24 * d34) * (d14 * d24 * d34) = V := Nat.div_mul_cancel ⟨d01 * d02 * d03 * d04 * d12 * d13 * d23, by rw [hV]; grind⟩
    have f := congrArg (fun n : Nat => (n : Int)) e
    try dsimp only at f
    simp only [Int.natCast_mul] at f
    exact f
  rw [rz3_4 (Z := Z) (V := V) h01 g01 h02 g02 h03 g03 h04 g04 h12 g12 h13 g13 h14 g14 h23 g23 h24 g24 h34 g34]
  have ep : pdz (fun q => if q = 4 then 1 else Z 4 - Z q) 5 0 = ((Z 4 - Z 0) * ((Z 4 - Z 1) * ((Z 4 - Z 2) * ((Z 4 - Z 3) * (1 * 1))))) := rfl
  have eo : onW 3 Z (Z 4) = Z 0 - Z 4 := rfl
  have dd : (d02 : Int) = d01 + d12 ∧ (d03 : Int) = d01 + d12 + d23 ∧ (d04 : Int) = d01 + d12 + d23 + d34 ∧ (d13 : Int) = d12 + d23 ∧ (d14 : Int) = d12 + d23 + d34 ∧ (d24 : Int) = d23 + d34 := by omega
  rw [ep, eo]
  simp only [h04, h14, h24, h34, g04]
  unfold gq3_4
  try simp only [Int.natCast_add]
  generalize ((V / (d14 * d24 * d34) : Nat) : Int) = y0 at *
  clear hV
  grind
theorem to2_0 (h01 : Z 1 - Z 0 = (d01 : Int)) (g01 : Z 0 - Z 1 = -(d01 : Int)) (h02 : Z 2 - Z 0 = (d02 : Int)) (g02 : Z 0 - Z 2 = -(d02 : Int)) (h03 : Z 3 - Z 0 = (d03 : Int)) (g03 : Z 0 - Z 3 = -(d03 : Int)) (h04 : Z 4 - Z 0 = (d04 : Int)) (g04 : Z 0 - Z 4 = -(d04 : Int)) (h12 : Z 2 - Z 1 = (d12 : Int)) (g12 : Z 1 - Z 2 = -(d12 : Int)) (h13 : Z 3 - Z 1 = (d13 : Int)) (g13 : Z 1 - Z 3 = -(d13 : Int)) (h14 : Z 4 - Z 1 = (d14 : Int)) (g14 : Z 1 - Z 4 = -(d14 : Int)) (h23 : Z 3 - Z 2 = (d23 : Int)) (g23 : Z 2 - Z 3 = -(d23 : Int)) (h24 : Z 4 - Z 2 = (d24 : Int)) (g24 : Z 2 - Z 4 = -(d24 : Int)) (h34 : Z 4 - Z 3 = (d34 : Int)) (g34 : Z 3 - Z 4 = -(d34 : Int)) (hV : V = d01 * d02 * d03 * d04 * d12 * d13 * d14 * d23 * d24 * d34) : rzz 5 Z V 2 0 * pdz (fun q => if q = 0 then 1 else Z 0 - Z q) 5 0 = V * onW 2 Z (Z 0) := by
  have u0 : ((V / (d01 * d02) : Nat) : Int) * ((d01 : Int) * (d02 : Int)) = V := by
    have e : V / (d01 * d02) * (d01 * d02) = V := Nat.div_mul_cancel ⟨d03 * d04 * d12 * d13 * d14 * d23 * d24 * d34, by rw [hV]; grind⟩
    have f := congrArg (fun n : Nat => (n : Int)) e
    try dsimp only at f
    simp only [Int.natCast_mul] at f
    exact f
  rw [rz2_0 (Z := Z) (V := V) h01 g01 h02 g02 h03 g03 h04 g04 h12 g12 h13 g13 h14 g14 h23 g23 h24 g24 h34 g34]
  have ep : pdz (fun q => if q = 0 then 1 else Z 0 - Z q) 5 0 = (1 * ((Z 0 - Z 1) * ((Z 0 - Z 2) * ((Z 0 - Z 3) * ((Z 0 - Z 4) * 1))))) := rfl
  have eo : onW 2 Z (Z 0) = (Z 0 - Z 3) * (Z 0 - Z 4) - (Z 0 - Z 0) * (Z 0 - Z 4) + (Z 0 - Z 0) * (Z 0 - Z 1) := rfl
  have dd : (d02 : Int) = d01 + d12 ∧ (d03 : Int) = d01 + d12 + d23 ∧ (d04 : Int) = d01 + d12 + d23 + d34 ∧ (d13 : Int) = d12 + d23 ∧ (d14 : Int) = d12 + d23 + d34 ∧ (d24 : Int) = d23 + d34 := by omega
  rw [ep, eo]
  try simp only [Int.sub_self, Int.mul_zero, Int.zero_mul]
  simp only [g01, g02, g03, g04]
  unfold gq2_0
  try simp only [Int.natCast_add]
  generalize ((V / (d01 * d02) : Nat) : Int) = y0 at *
  clear hV
  grind
theorem to2_1 (h01 : Z 1 - Z 0 = (d01 : Int)) (g01 : Z 0 - Z 1 = -(d01 : Int)) (h02 : Z 2 - Z 0 = (d02 : Int)) (g02 : Z 0 - Z 2 = -(d02 : Int)) (h03 : Z 3 - Z 0 = (d03 : Int)) (g03 : Z 0 - Z 3 = -(d03 : Int)) (h04 : Z 4 - Z 0 = (d04 : Int)) (g04 : Z 0 - Z 4 = -(d04 : Int)) (h12 : Z 2 - Z 1 = (d12 : Int)) (g12 : Z 1 - Z 2 = -(d12 : Int)) (h13 : Z 3 - Z 1 = (d13 : Int)) (g13 : Z 1 - Z 3 = -(d13 : Int)) (h14 : Z 4 - Z 1 = (d14 : Int)) (g14 : Z 1 - Z 4 = -(d14 : Int)) (h23 : Z 3 - Z 2 = (d23 : Int)) (g23 : Z 2 - Z 3 = -(d23 : Int)) (h24 : Z 4 - Z 2 = (d24 : Int)) (g24 : Z 2 - Z 4 = -(d24 : Int)) (h34 : Z 4 - Z 3 = (d34 : Int)) (g34 : Z 3 - Z 4 = -(d34 : Int)) (hV : V = d01 * d02 * d03 * d04 * d12 * d13 * d14 * d23 * d24 * d34) : rzz 5 Z V 2 1 * pdz (fun q => if q = 1 then 1 else Z 1 - Z q) 5 0 = V * onW 2 Z (Z 1) := by
  have u0 : ((V / (d01 * d12) : Nat) : Int) * ((d01 : Int) * (d12 : Int)) = V := by
    have e : V / (d01 * d12) * (d01 * d12) = V := Nat.div_mul_cancel ⟨d02 * d03 * d04 * d13 * d14 * d23 * d24 * d34, by rw [hV]; grind⟩
    have f := congrArg (fun n : Nat => (n : Int)) e
    try dsimp only at f
    simp only [Int.natCast_mul] at f
    exact f
  have u1 : ((V / (d12 * d13) : Nat) : Int) * ((d12 : Int) * (d13 : Int)) = V := by
    have e : V / (d12 * d13) * (d12 * d13) = V := Nat.div_mul_cancel ⟨d01 * d02 * d03 * d04 * d14 * d23 * d24 * d34, by rw [hV]; grind⟩
    have f := congrArg (fun n : Nat => (n : Int)) e
    try dsimp only at f
    simp only [Int.natCast_mul] at f
    exact f
  rw [rz2_1 (Z := Z) (V := V) h01 g01 h02 g02 h03 g03 h04 g04 h12 g12 h13 g13 h14 g14 h23 g23 h24 g24 h34 g34]
  have ep : pdz (fun q => if q = 1 then 1 else Z 1 - Z q) 5 0 = ((Z 1 - Z 0) * (1 * ((Z 1 - Z 2) * ((Z 1 - Z 3) * ((Z 1 - Z 4) * 1))))) := rfl
  have eo : onW 2 Z (Z 1) = (Z 1 - Z 3) * (Z 1 - Z 4) - (Z 1 - Z 0) * (Z 1 - Z 4) + (Z 1 - Z 0) * (Z 1 - Z 1) := rfl
  have dd : (d02 : Int) = d01 + d12 ∧ (d03 : Int) = d01 + d12 + d23 ∧ (d04 : Int) = d01 + d12 + d23 + d34 ∧ (d13 : Int) = d12 + d23 ∧ (d14 : Int) = d12 + d23 + d34 ∧ (d24 : Int) = d23 + d34 := by omega
  rw [ep, eo]
  try simp only [Int.sub_self, Int.mul_zero, Int.zero_mul]
  simp only [h01, g12, g13, g14]
  unfold gq2_1
  try simp only [Int.natCast_add]
  generalize ((V / (d01 * d12) : Nat) : Int) = y0 at *
  generalize ((V / (d12 * d13) : Nat) : Int) = y1 at *
  clear hV
  grind
theorem to2_2 (h01 : Z 1 - Z 0 = (d01 : Int)) (g01 : Z 0 - Z 1 = -(d01 : Int)) (h02 : Z 2 - Z 0 = (d02 : Int)) (g02 : Z 0 - Z 2 = -(d02 : Int)) (h03 : Z 3 - Z 0 = (d03 : Int)) (g03 : Z 0 - Z 3 = -(d03 : Int)) (h04 : Z 4 - Z 0 = (d04 : Int)) (g04 : Z 0 - Z 4 = -(d04 : Int)) (h12 : Z 2 - Z 1 = (d12 : Int)) (g12 : Z 1 - Z 2 = -(d12 : Int)) (h13 : Z 3 - Z 1 = (d13 : Int)) (g13 : Z 1 - Z 3 = -(d13 : Int)) (h14 : Z 4 - Z 1 = (d14 : Int)) (g14 : Z 1 - Z 4 = -(d14 : Int)) (h23 : Z 3 - Z 2 = (d23 : Int)) (g23 : Z 2 - Z 3 = -(d23 : Int)) (h24 : Z 4 - Z 2 = (d24 : Int)) (g24 : Z 2 - Z 4 = -(d24 : Int)) (h34 : Z 4 - Z 3 = (d34 : Int)) (g34 : Z 3 - Z 4 = -(d34 : Int)) (hV : V = d01 * d02 * d03 * d04 * d12 * d13 * d14 * d23 * d24 * d34) : rzz 5 Z V 2 2 * pdz (fun q => if q = 2 then 1 else Z 2 - Z q) 5 0 = V * onW 2 Z (Z 2) := by
  have u0 : ((V / (d02 * d12) : Nat) : Int) * ((d02 : Int) * (d12 : Int)) = V := by
    have e : V / (d02 * d12) * (d02 * d12) = V := Nat.div_mul_cancel ⟨d01 * d03 * d04 * d13 * d14 * d23 * d24 * d34, by rw [hV]; grind⟩
    have f := congrArg (fun n : Nat => (n : Int)) e
    try dsimp only at f
    simp only [Int.natCast_mul] at f
    exact f
  have u1 : ((V / (d12 * d23) : Nat) : Int) * ((d12 : Int) * (d23 : Int)) = V := by
    have e : V / (d12 * d23) * (d12 * d23) = V := Nat.div_mul_cancel ⟨d01 * d02 * d03 * d04 * d13 * d14 * d24 * d34, by rw [hV]; grind⟩
    have f := congrArg (fun n : Nat => (n : Int)) e
    try dsimp only at f
    simp only [Int.natCast_mul] at f
    exact f
  have u2 : ((V / (d23 * d24) : Nat) : Int) * ((d23 : Int) * (d24 : Int)) = V := by
    have e : V / (d23 * d24) * (d23 * d24) = V := Nat.div_mul_cancel ⟨d01 * d02 * d03 * d04 * d12 * d13 * d14 * d34, by rw [hV]; grind⟩
    have f := congrArg (fun n : Nat => (n : Int)) e
    try dsimp only at f
    simp only [Int.natCast_mul] at f
    exact f
  rw [rz2_2 (Z := Z) (V := V) h01 g01 h02 g02 h03 g03 h04 g04 h12 g12 h13 g13 h14 g14 h23 g23 h24 g24 h34 g34]
  have ep : pdz (fun q => if q = 2 then 1 else Z 2 - Z q) 5 0 = ((Z 2 - Z 0) * ((Z 2 - Z 1) * (1 * ((Z 2 - Z 3) * ((Z 2 - Z 4) * 1))))) := rfl
  have eo : onW 2 Z (Z 2) = (Z 2 - Z 3) * (Z 2 - Z 4) - (Z 2 - Z 0) * (Z 2 - Z 4) + (Z 2 - Z 0) * (Z 2 - Z 1) := rfl
  have dd : (d02 : Int) = d01 + d12 ∧ (d03 : Int) = d01 + d12 + d23 ∧ (d04 : Int) = d01 + d12 + d23 + d34 ∧ (d13 : Int) = d12 + d23 ∧ (d14 : Int) = d12 + d23 + d34 ∧ (d24 : Int) = d23 + d34 := by omega
  rw [ep, eo]
  simp only [h02, h12, g23, g24]
  unfold gq2_2
  try simp only [Int.natCast_add]
  generalize ((V / (d02 * d12) : Nat) : Int) = y0 at *
  generalize ((V / (d12 * d23) : Nat) : Int) = y1 at *
  generalize ((V / (d23 * d24) : Nat) : Int) = y2 at *
  clear hV
  grind
theorem to2_3 (h01 : Z 1 - Z 0 = (d01 : Int)) (g01 : Z 0 - Z 1 = -(d01 : Int)) (h02 : Z 2 - Z 0 = (d02 : Int)) (g02 : Z 0 - Z 2 = -(d02 : Int)) (h03 : Z 3 - Z 0 = (d03 : Int)) (g03 : Z 0 - Z 3 = -(d03 : Int)) (h04 : Z 4 - Z 0 = (d04 : Int)) (g04 : Z 0 - Z 4 = -(d04 : Int)) (h12 : Z 2 - Z 1 = (d12 : Int)) (g12 : Z 1 - Z 2 = -(d12 : Int)) (h13 : Z 3 - Z 1 = (d13 : Int)) (g13 : Z 1 - Z 3 = -(d13 : Int)) (h14 : Z 4 - Z 1 = (d14 : Int)) (g14 : Z 1 - Z 4 = -(d14 : Int)) (h23 : Z 3 - Z 2 = (d23 : Int)) (g23 : Z 2 - Z 3 = -(d23 : Int)) (h24 : Z 4 - Z 2 = (d24 : Int)) (g24 : Z 2 - Z 4 = -(d24 : Int)) (h34 : Z 4 - Z 3 = (d34 : Int)) (g34 : Z 3 - Z 4 = -(d34 : Int)) (hV : V = d01 * d02 * d03 * d04 * d12 * d13 * d14 * d23 * d24 * d34) : rzz 5 Z V 2 3 * pdz (fun q => if q = 3 then 1 else Z 3 - Z q) 5 0 = V * onW 2 Z (Z 3) := by
  have u0 : ((V / (d13 * d23) : Nat) : Int) * ((d13 : Int) * (d23 : Int)) = V := by
    have e : V / (d13 * d23) * (d13 * d23) = V := Nat.div_mul_cancel ⟨d01 * d02 * d03 * d04 * d12 * d14 * d24 * d34, by rw [hV]; grind⟩
    have f := congrArg (fun n : Nat => (n : Int)) e
    try dsimp only at f
    simp only [Int.natCast_mul] at f
    exact f
  have u1 : ((V / (d23 * d34) : Nat) : Int) * ((d23 : Int) * (d34 : Int)) = V := by
    have e : V / (d23 * d34) * (d23 * d34) = V := Nat.div_mul_cancel ⟨d01 * d02 * d03 * d04 * d12 * d13 * d14 * d24, by rw [hV]; grind⟩
    have f := congrArg (fun n : Nat => (n : Int)) e
    try dsimp only at f
    simp only [Int.natCast_mul] at f
    exact f
  rw [rz2_3 (Z := Z) (V := V) h01 g01 h02 g02 h03 g03 h04 g04 h12 g12 h13 g13 h14 g14 h23 g23 h24 g24 h34 g34]
  have ep : pdz (fun q => if q = 3 then 1 else Z 3 - Z q) 5 0 = ((Z 3 - Z 0) * ((Z 3 - Z 1) * ((Z 3 - Z 2) * (1 * ((Z 3 - Z 4) * 1))))) := rfl
  have eo : onW 2 Z (Z 3) = (Z 3 - Z 3) * (Z 3 - Z 4) - (Z 3 - Z 0) * (Z 3 - Z 4) + (Z 3 - Z 0) * (Z 3 - Z 1) := rfl
  have dd : (d02 : Int) = d01 + d12 ∧ (d03 : Int) = d01 + d12 + d23 ∧ (d04 : Int) = d01 + d12 + d23 + d34 ∧ (d13 : Int) = d12 + d23 ∧ (d14 : Int) = d12 + d23 + d34 ∧ (d24 : Int) = d23 + d34 := by omega
  rw [ep, eo]
  try simp only [Int.sub_self, Int.mul_zero, Int.zero_mul]
  simp only [h03, h13, h23, g34]
  unfold gq2_3
  try simp only [Int.natCast_add]
  generalize ((V / (d13 * d23) : Nat) : Int) = y0 at *
  generalize ((V / (d23 * d34) : Nat) : Int) = y1 at *
  clear hV
  grind
theorem to2_4 (h01 : Z 1 - Z 0 = (d01 : Int)) (g01 : Z 0 - Z 1 = -(d01 : Int)) (h02 : Z 2 - Z 0 = (d02 : Int)) (g02 : Z 0 - Z 2 = -(d02 : Int)) (h03 : Z 3 - Z 0 = (d03 : Int)) (g03 : Z 0 - Z 3 = -(d03 : Int)) (h04 : Z 4 - Z 0 = (d04 : Int)) (g04 : Z 0 - Z 4 = -(d04 : Int)) (h12 : Z 2 - Z 1 = (d12 : Int)) (g12 : Z 1 - Z 2 = -(d12 : Int)) (h13 : Z 3 - Z 1 = (d13 : Int)) (g13 : Z 1 - Z 3 = -(d13 : Int)) (h14 : Z 4 - Z 1 = (d14 : Int)) (g14 : Z 1 - Z 4 = -(d14 : Int)) (h23 : Z 3 - Z 2 = (d23 : Int)) (g23 : Z 2 - Z 3 = -(d23 : Int)) (h24 : Z 4 - Z 2 = (d24 : Int)) (g24 : Z 2 - Z 4 = -(d24 : Int)) (h34 : Z 4 - Z 3 = (d34 : Int)) (g34 : Z 3 - Z 4 = -(d34 : Int)) (hV : V = d01 * d02 * d03 * d04 * d12 * d13 * d14 * d23 * d24 * d34) : rzz 5 Z V 2 4 * pdz (fun q => if q = 4 then 1 else Z 4 - Z q) 5 0 = V * onW 2 Z (Z 4) := by
  have u0 : ((V / (d24 * d34) : Nat) : Int) * ((d24 : Int) * (d34 : Int)) = V := by
    have e : V / (d24 * d34) * (d24 * d34) = V := Nat.div_mul_cancel ⟨d01 * d02 * d03 * d04 * d12 * d13 * d14 * d23, by rw [hV]; grind⟩
    have f := congrArg (fun n : Nat => (n : Int)) e
    try dsimp only at f
    simp only [Int.natCast_mul] at f
    exact f
  rw [rz2_4 (Z := Z) (V := V) h01 g01 h02 g02 h03 g03 h04 g04 h12 g12 h13 g13 h14 g14 h23 g23 h24 g24 h34 g34]
  have ep : pdz (fun q => if q = 4 then 1 else Z 4 - Z q) 5 0 = ((Z 4 - Z 0) * ((Z 4 - Z 1) * ((Z 4 - Z 2) * ((Z 4 - Z 3) * (1 * 1))))) := rfl
  have eo : onW 2 Z (Z 4) = (Z 4 - Z 3) * (Z 4 - Z 4) - (Z 4 - Z 0) * (Z 4 - Z 4) + (Z 4 - Z 0) * (Z 4 - Z 1) := rfl
  have dd : (d02 : Int) = d01 + d12 ∧ (d03 : Int) = d01 + d12 + d23 ∧ (d04 : Int) = d01 + d12 + d23 + d34 ∧ (d13 : Int) = d12 + d23 ∧ (d14 : Int) = d12 + d23 + d34 ∧ (d24 : Int) = d23 + d34 := by omega
  rw [ep, eo]
  try simp only [Int.sub_self, Int.mul_zero, Int.zero_mul]
  simp only [h04, h14, h24, h34]
  unfold gq2_4
  try simp only [Int.natCast_add]
  generalize ((V / (d24 * d34) : Nat) : Int) = y0 at *
  clear hV
  grind
end TOZ
