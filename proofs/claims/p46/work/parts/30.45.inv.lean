/-! The relation of both sides, and the guards. -/
abbrev AZ : Type := Int × Int × Int × (Int → Int) × (Int → Int) × (Int → Int)
abbrev zC (a : AZ) : Int := a.1
abbrev zM (a : AZ) : Int := a.2.1
abbrev zD (a : AZ) : Int := a.2.2.1
abbrev zX (a : AZ) : Int → Int := a.2.2.2.1
abbrev zY (a : AZ) : Int → Int := a.2.2.2.2.1
abbrev zW (a : AZ) : Int → Int := a.2.2.2.2.2
noncomputable abbrev zw (a : AZ) : Int → Int := wtz (zC a) (zM a) (zD a) (zX a) (zW a)
def OkZ (a : AZ) : Prop := 0 ≤ zC a ∧ zC a ≤ 5 ∧ 0 ≤ zM a ∧ zM a ≤ 2 ∧ 0 ≤ zD a ∧ zD a ≤ 4 ∧ Rz (zC a) (-9) 9 (zX a) ∧ Rz (zC a) (-20) 20 (zY a) ∧ Rz (zC a) (-9) 9 (zW a) ∧ Inj (zC a) (zX a)
def N3 (a : AZ) (c dg md : Int32) (ws xs ys : Nat → Int32) : Prop := c = z3 (zC a) ∧ dg = z3 (zD a) ∧ md = z3 (zM a) ∧ En 0 (zC a) ws (zW a) ∧ En 0 (zC a) xs (zX a) ∧ En 0 (zC a) ys (zY a)
def N7 (a : AZ) (s : Nat → Int32) : Prop := s 0 = z3 (zM a) ∧ s 1 = z3 (zD a) ∧ s 2 = z3 (zC a) ∧ En 3 (zC a) s (zX a) ∧ En 8 (zC a) s (zY a) ∧ En 13 (zC a) s (zW a)
def Cv (a : AZ) (den num : Nat → Int64) (order : Nat → Int32) (wts : Nat → Int64) : Prop := Crv (zC a) (zX a) (zY a) (zw a) den num ∧ En 0 (zC a) order (ivz (zC a) (zX a)) ∧ E6 (zC a) wts (zw a)
/-- the remembered states -/
def JH (hc : Int32) (kc km kd : Nat → Int32) (kw kx ky : Nat → Nat → Int32) (ed : Int32) (hi : Nat → Int32) : Prop :=
  ∃ (h : Int) (q : Int → AZ), 0 ≤ h ∧ h ≤ 10 ∧ hc = z3 h ∧ ed = z3 h ∧ ∀ e, 0 ≤ e → e < h → OkZ (q e) ∧ N3 (q e) (kc e.toNat) (kd e.toNat) (km e.toNat) (kw e.toNat) (kx e.toNat) (ky e.toNat) ∧ N7 (q e) (fun i => hi (18 * e.toNat + i))
/-- the bytes -/
def JB (fi bu : Int32) (f g : Nat → Int32) : Prop := ∃ b : Int, 0 ≤ b ∧ b ≤ 400 ∧ fi = z3 b ∧ bu = z3 b ∧ ∀ i, 0 ≤ i → i < b → f i.toNat = g i.toNat ∧ ∃ v, 0 ≤ v ∧ v < 256 ∧ g i.toNat = z3 v
/-- what is written -/
def JO (oc ol : Int32) (f g : Nat → Int32) : Prop := ∃ b : Int, 0 ≤ b ∧ b ≤ 320 ∧ oc = z3 b ∧ ol = z3 b ∧ ∀ i, 0 ≤ i → i < b → f i.toNat = g i.toNat ∧ ∃ v, 0 ≤ v ∧ v < 65536 ∧ g i.toNat = z3 v
theorem ex3 (p : Int32) : ∃ x : Int, -2147483648 ≤ x ∧ x < 2147483648 ∧ p = z3 x := ⟨p.toInt, Int32.le_toInt p, Int32.toInt_lt p, (z3i p).symm⟩
section GRD
variable {p a b : Int}
theorem nb_y (h : a ≤ p ∧ p ≤ b) (p0 : -2147483648 ≤ p) (p1 : p < 2147483648) (a0 : -2147483648 ≤ a) (a1 : a < 2147483648) (b0 : -2147483648 ≤ b) (b1 : b < 2147483648) : mX6_needBetween (z3 p) (z3 a) (z3 b) = some 0 := by
  unfold mX6_needBetween
  simp (disch := omega) only [z3lt, z3le, if_pos, if_neg]
theorem nb_n (h : ¬ (a ≤ p ∧ p ≤ b)) (p0 : -2147483648 ≤ p) (p1 : p < 2147483648) (a0 : -2147483648 ≤ a) (a1 : a < 2147483648) (b0 : -2147483648 ≤ b) (b1 : b < 2147483648) : mX6_needBetween (z3 p) (z3 a) (z3 b) = some 2 := by
  unfold mX6_needBetween
  simp (disch := omega) only [z3lt, z3le]
  by_cases w : p < a
  · rw [if_pos w]
  · rw [if_neg w, if_neg (by omega)]
theorem nw_y (h : -b ≤ p ∧ p ≤ b) (p0 : -2147483648 ≤ p) (p1 : p < 2147483648) (b0 : 0 ≤ b) (b1 : b < 2147483648) : mX6_needWithin (z3 p) (z3 b) = some 0 := by
  unfold mX6_needWithin
  rw [z3n, nb_y h p0 p1 (by omega) (by omega) (by omega) (by omega)]
  rfl
theorem nw_n (h : ¬ (-b ≤ p ∧ p ≤ b)) (p0 : -2147483648 ≤ p) (p1 : p < 2147483648) (b0 : 0 ≤ b) (b1 : b < 2147483648) : mX6_needWithin (z3 p) (z3 b) = some 2 := by
  unfold mX6_needWithin
  rw [z3n, nb_n h p0 p1 (by omega) (by omega) (by omega) (by omega)]
  rfl
theorem np_y (h : 0 ≤ p ∧ p ≤ 1) (p0 : -2147483648 ≤ p) (p1 : p < 2147483648) : mX6_needPart (z3 p) = some 0 := by
  unfold mX6_needPart
  rw [l3_0, l3_1, nb_y h p0 p1 (by omega) (by omega) (by omega) (by omega)]
  rfl
theorem np_n (h : ¬ (0 ≤ p ∧ p ≤ 1)) (p0 : -2147483648 ≤ p) (p1 : p < 2147483648) : mX6_needPart (z3 p) = some 2 := by
  unfold mX6_needPart
  rw [l3_0, l3_1, nb_n h p0 p1 (by omega) (by omega) (by omega) (by omega)]
  rfl
theorem nt_y {C : Int} (h0 : 0 ≤ C) (h5 : C ≤ 5) (h : 0 ≤ p ∧ p < C) (p0 : -2147483648 ≤ p) (p1 : p < 2147483648) : mX6_needPoint (z3 C) (z3 p) = some 0 := by
  unfold mX6_needPoint mX3_has
  have g1 : ¬ z3 p < 0 := fun w => by
    have := (z3lt p0 p1 (by omega) (by omega)).1 (l3_0 ▸ w)
    omega
  have g2 : ¬ z3 C ≤ z3 p := fun w => by
    have := (z3le (by omega) (by omega) p0 p1).1 w
    omega
  rw [if_neg g1, if_neg g2]
  rfl
theorem nt_n {C : Int} (h0 : 0 ≤ C) (h5 : C ≤ 5) (h : ¬ (0 ≤ p ∧ p < C)) (p0 : -2147483648 ≤ p) (p1 : p < 2147483648) : mX6_needPoint (z3 C) (z3 p) = some 1 := by
  unfold mX6_needPoint mX3_has
  by_cases w : p < 0
  · rw [if_pos (show z3 p < 0 from l3_0 ▸ (z3lt p0 p1 (by omega) (by omega)).2 w)]
    rfl
  · have g1 : ¬ z3 p < 0 := fun q => w ((z3lt p0 p1 (by omega) (by omega)).1 (l3_0 ▸ q))
    rw [if_neg g1, if_pos ((z3le (by omega) (by omega) p0 p1).2 (by omega))]
    rfl
end GRD
theorem OkZ.bw {a : AZ} (hO : OkZ a) : Bw (zC a) (zw a) := by
  obtain ⟨h0, h5, m0, m1, d0, d1, hr, hry, hrw, hi⟩ := hO
  exact fun k k0 k1 => wtz_b h0 h5 hr hi hrw d0 k0 k1
theorem reckon3 {a : AZ} {c dg md : Int32} {ws xs ys : Nat → Int32} (hO : OkZ a) (h : N3 a c dg md ws xs ys) (den : Nat → Int64) (num : Nat → Int64) (order : Nat → Int32) (product : Nat → Int64) (sorted : Nat → Int32) (wts : Nat → Int64) :
    ∃ den1 num1 order1 product1 sorted1 wts1, mX0_reckon den c dg md ws xs ys num order product sorted wts = some (den1, num1, order1, product1, sorted1, wts1) ∧ Cv a den1 num1 order1 wts1 := by
  obtain ⟨h0, h5, m0, m1, d0, d1, hr, hry, hrw, hi⟩ := hO
  obtain ⟨rfl, rfl, rfl, hw, hx, hy⟩ := h
  obtain ⟨o1, so1, e1, e2, e3⟩ := sort3 h0 h5 hx hr hi order sorted
  obtain ⟨w1, f1, f2⟩ := reckonWeights3 h0 h5 hx hw hr hrw hi e3 m0 m1 d0 d1 wts
  obtain ⟨d2, n2, p2, g1, g2, g3⟩ := polys3 h0 h5 hx hy hr hry f2 den num product
  refine ⟨d2, n2, o1, p2, so1, w1, ?_, ⟨?_, ?_⟩, e2, f2⟩
  · unfold mX0_reckon
    rw [e1, Option.bind_some, f1, Option.bind_some, g1]
    rfl
  · rw [Tz1]
    exact g2
  · rw [Tz0]
    exact g3
