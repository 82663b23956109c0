/-! The relation of both sides, and the guards. -/
abbrev AZ : Type := Int × Int × Int × (Int → Int) × (Int → Int) × (Int → Int)
abbrev zC (a : AZ) : Int := a.1
abbrev zM (a : AZ) : Int := a.2.1
abbrev zD (a : AZ) : Int := a.2.2.1
abbrev zX (a : AZ) : Int → Int := a.2.2.2.1
abbrev zY (a : AZ) : Int → Int := a.2.2.2.2.1
abbrev zW (a : AZ) : Int → Int := a.2.2.2.2.2
noncomputable abbrev zw (a : AZ) : Int → Int := wtz (zC a) (zM a) (zD a) (zX a) (zW a)
def OkZ (a : AZ) : Prop := 0 ≤ zC a ∧ zC a ≤ 5 ∧ 0 ≤ zM a ∧ zM a ≤ 2 ∧ 0 ≤ zD a ∧ zD a ≤ 4 ∧ Rz (zC a) (-9) 9 (zX a) ∧ Rz (zC a) (-20) 20 (zY a) ∧ Rz (zC a) (-9) 9 (zW a) ∧ Inj (zC a) (zX a)
def N3 (a : AZ) (c dg md : Int32) (ws xs ys : Nat → Int32) : Prop := c = z3 (zC a) ∧ dg = z3 (zD a) ∧ md = z3 (zM a) ∧ En 0 (zC a) ws (zW a) ∧ En 0 (zC a) xs (zX a) ∧ En 0 (zC a) ys (zY a)
def N7 (a : AZ) (s : Nat → Int32) : Prop := s 0 = z3 (zM a) ∧ s 1 = z3 (zD a) ∧ s 2 = z3 (zC a) ∧ En 3 (zC a) s (zX a) ∧ En 8 (zC a) s (zY a) ∧ En 13 (zC a) s (zW a)
def Cv (a : AZ) (den num : Nat → Int64) (order : Nat → Int32) (wts : Nat → Int64) : Prop := Crv (zC a) (zX a) (zY a) (zw a) den num ∧ En 0 (zC a) order (ivz (zC a) (zX a)) ∧ E6 (zC a) wts (zw a)
def J6 (a : AZ) (σ : S6) : Prop := N3 a (a6_present_nodes_count σ) (a6_present_nodes_degree σ) (a6_present_nodes_mode σ) (a6_present_nodes_ws σ) (a6_present_nodes_xs σ) (a6_present_nodes_ys σ) ∧ Cv a (a6_present_denominator σ) (a6_present_numerator σ) (a6_present_order σ) (a6_present_weights σ)
/-- the remembered states -/
def JH (hc : Int32) (kc km kd : Nat → Int32) (kw kx ky : Nat → Nat → Int32) (ed : Int32) (hi : Nat → Int32) : Prop :=
  ∃ (h : Int) (q : Int → AZ), 0 ≤ h ∧ h ≤ 10 ∧ hc = z3 h ∧ ed = z3 h ∧ ∀ e, 0 ≤ e → e < h → OkZ (q e) ∧ N3 (q e) (kc e.toNat) (kd e.toNat) (km e.toNat) (kw e.toNat) (kx e.toNat) (ky e.toNat) ∧ N7 (q e) (fun i => hi (18 * e.toNat + i))
/-- the bytes -/
def JB (fi bu : Int32) (f g : Nat → Int32) : Prop := ∃ b : Int, 0 ≤ b ∧ b ≤ 400 ∧ fi = z3 b ∧ bu = z3 b ∧ ∀ i, 0 ≤ i → i < b → f i.toNat = g i.toNat ∧ ∃ v, 0 ≤ v ∧ v < 256 ∧ g i.toNat = z3 v
/-- what is written -/
def JO (oc ol : Int32) (f g : Nat → Int32) : Prop := ∃ b : Int, 0 ≤ b ∧ b ≤ 320 ∧ oc = z3 b ∧ ol = z3 b ∧ ∀ i, 0 ≤ i → i < b → f i.toNat = g i.toNat ∧ ∃ v, 0 ≤ v ∧ v < 65536 ∧ g i.toNat = z3 v
def JZ (σ : S6) (τ : S7) : Prop :=
  (∃ a, OkZ a ∧ J6 a σ ∧ N7 a (a7_s τ)) ∧
  JH (a6_history_count σ) (a6_history_kept_E_count σ) (a6_history_kept_E_mode σ) (a6_history_kept_E_degree σ) (a6_history_kept_E_ws σ) (a6_history_kept_E_xs σ) (a6_history_kept_E_ys σ) (a7_edits τ) (a7_history τ) ∧
  JB (a6_text_filled σ) (a7_buffered τ) (a6_text_bytes σ) (a7_buffer τ) ∧
  (a6_text_faultKind σ = a7_errorKind τ ∧ a6_text_faultPosition σ = a7_errorPosition τ) ∧
  JO (a6_output_count σ) (a7_outputLength τ) (a6_output_signs σ) (a7_output τ)
def JS (z : SL) : Prop := JZ z.1 z.2.1
/-- what is to be shown of a step -/
def SOK (q : (Nat → Int32) → SL → Option SL) : Prop := ∀ u z, JS z → ∃ z1, q u z = some z1 ∧ JS z1
theorem ex3 (p : Int32) : ∃ x : Int, -2147483648 ≤ x ∧ x < 2147483648 ∧ p = z3 x := ⟨p.toInt, Int32.le_toInt p, Int32.toInt_lt p, (z3i p).symm⟩
section GRD
variable {p a b : Int}
theorem nb_y (h : a ≤ p ∧ p ≤ b) (p0 : -2147483648 ≤ p) (p1 : p < 2147483648) (a0 : -2147483648 ≤ a) (a1 : a < 2147483648) (b0 : -2147483648 ≤ b) (b1 : b < 2147483648) : mX6_needBetween (z3 p) (z3 a) (z3 b) = some 0 := by
  unfold mX6_needBetween
  simp (disch := omega) only [z3lt, z3le, if_pos, if_neg]
theorem nb_n (h : ¬ (a ≤ p ∧ p ≤ b)) (p0 : -2147483648 ≤ p) (p1 : p < 2147483648) (a0 : -2147483648 ≤ a) (a1 : a < 2147483648) (b0 : -2147483648 ≤ b) (b1 : b < 2147483648) : mX6_needBetween (z3 p) (z3 a) (z3 b) = some 2 := by
  unfold mX6_needBetween
  simp (disch := omega) only [z3lt, z3le]
  by_cases w : p < a
  · rw [if_pos w]
  · rw [if_neg w, if_neg (by omega)]
theorem nw_y (h : -b ≤ p ∧ p ≤ b) (p0 : -2147483648 ≤ p) (p1 : p < 2147483648) (b0 : 0 ≤ b) (b1 : b < 2147483648) : mX6_needWithin (z3 p) (z3 b) = some 0 := by
  unfold mX6_needWithin
  rw [z3n, nb_y h p0 p1 (by omega) (by omega) (by omega) (by omega)]
  rfl
theorem nw_n (h : ¬ (-b ≤ p ∧ p ≤ b)) (p0 : -2147483648 ≤ p) (p1 : p < 2147483648) (b0 : 0 ≤ b) (b1 : b < 2147483648) : mX6_needWithin (z3 p) (z3 b) = some 2 := by
  unfold mX6_needWithin
  rw [z3n, nb_n h p0 p1 (by omega) (by omega) (by omega) (by omega)]
  rfl
theorem np_y (h : 0 ≤ p ∧ p ≤ 1) (p0 : -2147483648 ≤ p) (p1 : p < 2147483648) : mX6_needPart (z3 p) = some 0 := by
  unfold mX6_needPart
  rw [l3_0, l3_1, nb_y h p0 p1 (by omega) (by omega) (by omega) (by omega)]
  rfl
theorem np_n (h : ¬ (0 ≤ p ∧ p ≤ 1)) (p0 : -2147483648 ≤ p) (p1 : p < 2147483648) : mX6_needPart (z3 p) = some 2 := by
  unfold mX6_needPart
  rw [l3_0, l3_1, nb_n h p0 p1 (by omega) (by omega) (by omega) (by omega)]
  rfl
theorem nt_y {C : Int} (h0 : 0 ≤ C) (h5 : C ≤ 5) (h : 0 ≤ p ∧ p < C) (p0 : -2147483648 ≤ p) (p1 : p < 2147483648) : mX6_needPoint (z3 C) (z3 p) = some 0 := by
  unfold mX6_needPoint mX3_has
  have g1 : ¬ z3 p < 0 := fun w => by
    have := (z3lt p0 p1 (by omega) (by omega)).1 (l3_0 ▸ w)
    omega
  have g2 : ¬ z3 C ≤ z3 p := fun w => by
    have := (z3le (by omega) (by omega) p0 p1).1 w
    omega
  rw [if_neg g1, if_neg g2]
  rfl
theorem nt_n {C : Int} (h0 : 0 ≤ C) (h5 : C ≤ 5) (h : ¬ (0 ≤ p ∧ p < C)) (p0 : -2147483648 ≤ p) (p1 : p < 2147483648) : mX6_needPoint (z3 C) (z3 p) = some 1 := by
  unfold mX6_needPoint mX3_has
  by_cases w : p < 0
  · rw [if_pos (show z3 p < 0 from l3_0 ▸ (z3lt p0 p1 (by omega) (by omega)).2 w)]
    rfl
  · have g1 : ¬ z3 p < 0 := fun q => w ((z3lt p0 p1 (by omega) (by omega)).1 (l3_0 ▸ q))
    rw [if_neg g1, if_pos ((z3le (by omega) (by omega) p0 p1).2 (by omega))]
    rfl
theorem ii_y (h : a ≤ p ∧ p ≤ b) (p0 : -2147483648 ≤ p) (p1 : p < 2147483648) (a0 : -2147483648 ≤ a) (a1 : a < 2147483648) (b0 : -2147483648 ≤ b) (b1 : b < 2147483648) : mX7_isIn (z6 p) (z6 a) (z6 b) = some 1 := by
  unfold mX7_isIn
  simp (disch := omega) only [z6lt, if_neg]
theorem ii_n (h : ¬ (a ≤ p ∧ p ≤ b)) (p0 : -2147483648 ≤ p) (p1 : p < 2147483648) (a0 : -2147483648 ≤ a) (a1 : a < 2147483648) (b0 : -2147483648 ≤ b) (b1 : b < 2147483648) : mX7_isIn (z6 p) (z6 a) (z6 b) = some 0 := by
  unfold mX7_isIn
  simp (disch := omega) only [z6lt]
  by_cases w : p < a
  · rw [if_pos w]
  · rw [if_neg w, if_pos (by omega)]
theorem iw_y (h : -12 ≤ p ∧ p ≤ 12) (p0 : -2147483648 ≤ p) (p1 : p < 2147483648) : mX7_isWhole (z3 p) = some 1 := by
  unfold mX7_isWhole
  rw [z364 p0 p1, show ((-12 : Int64)) = z6 (-12) from rfl, show (12 : Int64) = z6 12 from rfl, ii_y h p0 p1 (by omega) (by omega) (by omega) (by omega)]
  rfl
theorem iw_n (h : ¬ (-12 ≤ p ∧ p ≤ 12)) (p0 : -2147483648 ≤ p) (p1 : p < 2147483648) : mX7_isWhole (z3 p) = some 0 := by
  unfold mX7_isWhole
  rw [z364 p0 p1, show ((-12 : Int64)) = z6 (-12) from rfl, show (12 : Int64) = z6 12 from rfl, ii_n h p0 p1 (by omega) (by omega) (by omega) (by omega)]
  rfl
theorem ip_y (h : 0 ≤ p ∧ p ≤ 1) (p0 : -2147483648 ≤ p) (p1 : p < 2147483648) : mX7_isPart (z3 p) = some 1 := by
  have : p = 0 ∨ p = 1 := by omega
  rcases this with rfl | rfl <;> rfl
theorem ip_n (h : ¬ (0 ≤ p ∧ p ≤ 1)) (p0 : -2147483648 ≤ p) (p1 : p < 2147483648) : mX7_isPart (z3 p) = some 0 := by
  unfold mX7_isPart
  simp (disch := omega) only [l3_0, l3_1, z3eq, if_neg]
theorem it_y {C : Int} {s : Nat → Int32} (hs : s 2 = z3 C) (h0 : 0 ≤ C) (h5 : C ≤ 5) (h : 0 ≤ p ∧ p < C) (p0 : -2147483648 ≤ p) (p1 : p < 2147483648) : mX7_isPoint s (z3 p) = some 1 := by
  unfold mX7_isPoint
  simp (disch := omega) only [l3_0, l3_1, l3_2, l3_3, l3_4, l3_5, l3_8, l3_9, l3_10, l3_12, l3_13, l3_14, l3_18, l3_19, l3_20, l3_24, l3_31, l3_32, l3_33, l3_45, l3_47, l3_48, l3_57, l3_58, l3_59, l3_63, l3_94, l3_97, l3_120, l3_122, l3_180, l3_200, l3_255, l3_320, l3_400, z3a, z3s, z3m, z3n, z3le, z3lt, z3eq, z3nat, z364, l6_0, l6_1, l6_2, l6_10, l6_48, z6a, z6s, z6m, z6n, Int.reduceToNat, hs, if_neg]
  rw [ii_y (by omega) p0 p1 (by omega) (by omega) (by omega) (by omega)]
  rfl
theorem it_n {C : Int} {s : Nat → Int32} (hs : s 2 = z3 C) (h0 : 0 ≤ C) (h5 : C ≤ 5) (h : ¬ (0 ≤ p ∧ p < C)) (p0 : -2147483648 ≤ p) (p1 : p < 2147483648) : mX7_isPoint s (z3 p) = some 0 := by
  unfold mX7_isPoint
  simp (disch := omega) only [l3_0, l3_1, l3_2, l3_3, l3_4, l3_5, l3_8, l3_9, l3_10, l3_12, l3_13, l3_14, l3_18, l3_19, l3_20, l3_24, l3_31, l3_32, l3_33, l3_45, l3_47, l3_48, l3_57, l3_58, l3_59, l3_63, l3_94, l3_97, l3_120, l3_122, l3_180, l3_200, l3_255, l3_320, l3_400, z3a, z3s, z3m, z3n, z3le, z3lt, z3eq, z3nat, z364, l6_0, l6_1, l6_2, l6_10, l6_48, z6a, z6s, z6m, z6n, Int.reduceToNat, hs, if_neg]
  rw [ii_n (by omega) p0 p1 (by omega) (by omega) (by omega) (by omega)]
  rfl
end GRD
theorem gd0 (t : Int32) : mX7_good t 0 = some (0, 1) := rfl
theorem gd1 (t : Int32) : mX7_good t 1 = some (1, 0) := rfl
theorem g2_0 (t b : Int32) : mX7_good_ t 0 b = some (0, 1) := rfl
theorem g2_10 (t : Int32) : mX7_good_ t 1 0 = some (0, 2) := rfl
theorem g2_11 (t : Int32) : mX7_good_ t 1 1 = some (1, 0) := rfl
theorem g3_0 (t b c : Int32) : mX7_good__ t 0 b c = some (0, 1) := rfl
theorem g3_10 (t c : Int32) : mX7_good__ t 1 0 c = some (0, 2) := rfl
theorem g3_110 (t : Int32) : mX7_good__ t 1 1 0 = some (0, 3) := rfl
theorem g3_111 (t : Int32) : mX7_good__ t 1 1 1 = some (1, 0) := rfl
/-- the reckoned weights of a state, both sides -/
theorem lw7 {a : AZ} {s : Nat → Int32} (hO : OkZ a) (h : N7 a s) (o0 : Nat → Int32) (w0 : Nat → Int64) : ∃ o1 w1, mX7_laysWeights o0 s w0 = some (o1, w1) ∧ En 0 (zC a) o1 (ivz (zC a) (zX a)) ∧ E6 (zC a) w1 (zw a) := by
  obtain ⟨h0, h5, m0, m1, d0, d1, hr, hry, hrw, hi⟩ := hO
  obtain ⟨s0, s1, s2, hx, hy, hw⟩ := h
  exact laysWeights7 h0 h5 s0 s1 s2 hx hw hr hrw hi m0 m1 d0 d1 o0 w0
theorem OkZ.bw {a : AZ} (hO : OkZ a) : Bw (zC a) (zw a) := by
  obtain ⟨h0, h5, m0, m1, d0, d1, hr, hry, hrw, hi⟩ := hO
  exact fun k k0 k1 => wtz_b h0 h5 hr hi hrw d0 k0 k1
theorem reckon3 {a : AZ} {c dg md : Int32} {ws xs ys : Nat → Int32} (hO : OkZ a) (h : N3 a c dg md ws xs ys) (den : Nat → Int64) (num : Nat → Int64) (order : Nat → Int32) (product : Nat → Int64) (sorted : Nat → Int32) (wts : Nat → Int64) :
    ∃ den1 num1 order1 product1 sorted1 wts1, mX0_reckon den c dg md ws xs ys num order product sorted wts = some (den1, num1, order1, product1, sorted1, wts1) ∧ Cv a den1 num1 order1 wts1 := by
  obtain ⟨h0, h5, m0, m1, d0, d1, hr, hry, hrw, hi⟩ := hO
  obtain ⟨rfl, rfl, rfl, hw, hx, hy⟩ := h
  obtain ⟨o1, so1, e1, e2, e3⟩ := sort3 h0 h5 hx hr hi order sorted
  obtain ⟨w1, f1, f2⟩ := reckonWeights3 h0 h5 hx hw hr hrw hi e3 m0 m1 d0 d1 wts
  obtain ⟨d2, n2, p2, g1, g2, g3⟩ := polys3 h0 h5 hx hy hr hry f2 den num product
  refine ⟨d2, n2, o1, p2, so1, w1, ?_, ⟨?_, ?_⟩, e2, f2⟩
  · unfold mX0_reckon
    rw [e1, Option.bind_some, f1, Option.bind_some, g1]
    rfl
  · rw [Tz1]
    exact g2
  · rw [Tz0]
    exact g3
