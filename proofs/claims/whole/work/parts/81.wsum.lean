/-! The weights over their greatest common divisor: the sum without signs, and the numerator. -/
theorem smz_f (f : Int → Int) : ∀ m : Nat, smz f m 0 = (List.range m).foldl (fun (a : Int) (i : Nat) => a + f i) 0 := by
  intro m
  induction m with
  | zero => rfl
  | succ m ih =>
    rw [smz_e, ih, List.range_succ, List.foldl_append, show (0 : Int) + (m : Int) = m by omega]
    rfl
theorem smz_iv {C : Int} {X : Int → Int} (hi : Inj C X) (f : Int → Int) : smz (fun p => f (ivz C X p)) C.toNat 0 = smz f C.toNat 0 := by
  rw [smz_f, smz_f]
  have e : (List.range C.toNat).foldl (fun (a : Int) (i : Nat) => a + f (ivz C X i)) 0 = ((List.range C.toNat).map (fun (i : Nat) => (ivz C X i).toNat)).foldl (fun (a : Int) (i : Nat) => a + f i) 0 := by
    rw [List.foldl_map]
    have : ∀ (l : List Nat) (a : Int), (∀ i ∈ l, i < C.toNat) → l.foldl (fun (a : Int) (i : Nat) => a + f (ivz C X i)) a = l.foldl (fun (a : Int) (i : Nat) => a + f ((ivz C X i).toNat : Int)) a := by
      intro l
      induction l with
      | nil => intro a _; rfl
      | cons b l ih =>
        intro a h
        have hb := h b List.mem_cons_self
        have := ivz_s hi (p := b) (by omega) (by omega)
        show l.foldl (fun (a : Int) (i : Nat) => a + f (ivz C X i)) (a + f (ivz C X b)) = l.foldl (fun (a : Int) (i : Nat) => a + f ((ivz C X i).toNat : Int)) (a + f ((ivz C X b).toNat : Int))
        rw [show ((ivz C X b).toNat : Int) = ivz C X b by omega]
        exact ih _ (fun i hi => h i (List.mem_cons_of_mem _ hi))
    exact this _ 0 (fun i hi => List.mem_range.1 hi)
  rw [e]
  apply List.Perm.foldl_eq'
  · apply (List.perm_ext_iff_of_nodup _ List.nodup_range).2
    · intro a
      rw [List.mem_map, List.mem_range]
      constructor
      · rintro ⟨i, h1, rfl⟩
        have h1 := List.mem_range.1 h1
        have := ivz_s hi (p := i) (by omega) (by omega)
        omega
      · intro h
        have a1 := plz_ge C X a
        have a2 := plz_r (C := C) (X := X) (k := a) (by omega) (by omega)
        refine ⟨(plz C X a).toNat, List.mem_range.2 (by omega), ?_⟩
        rw [show ((plz C X a).toNat : Int) = plz C X a by omega, ivz_p hi (by omega) (by omega)]
        omega
    · unfold List.Nodup
      rw [List.pairwise_map]
      apply List.Pairwise.imp_of_mem _ List.nodup_range
      intro i j h1 h2 h3 h4
      have h1 := List.mem_range.1 h1
      have h2 := List.mem_range.1 h2
      have s1 := ivz_s hi (p := i) (by omega) (by omega)
      have s2 := ivz_s hi (p := j) (by omega) (by omega)
      have : ivz C X i = ivz C X j := by omega
      rw [this] at s1
      omega
  · intro x _ y _ z
    rw [Int.add_assoc, Int.add_assoc, Int.add_comm (f x)]
theorem smz_ab (f : Int → Int) : ∀ (m : Nat) (j : Int), ((smz f m j).natAbs : Int) ≤ smz (fun i => ((f i).natAbs : Int)) m j := by
  intro m
  induction m with
  | zero => intro j; exact Int.le_refl _
  | succ m ih =>
    intro j
    have := ih (j + 1)
    show ((f j + smz f m (j + 1)).natAbs : Int) ≤ ((f j).natAbs : Int) + smz (fun i => ((f i).natAbs : Int)) m (j + 1)
    omega
theorem smz_ge {f : Int → Int} : ∀ (m : Nat) (j : Int), (∀ i, j ≤ i → i < j + m → 0 ≤ f i) → 0 ≤ smz f m j := by
  intro m
  induction m with
  | zero => intro j _; exact Int.le_refl _
  | succ m ih =>
    intro j h
    have := ih (j + 1) (fun i a b => h i (by omega) (by omega))
    have := h j (by omega) (by omega)
    show 0 ≤ f j + smz f m (j + 1)
    omega
section WSM
variable {C m d : Int} {X Y W : Int → Int}
theorem gwz_u {D : Int} : ∀ (n : Nat), (∀ k : Int, 0 ≤ k → k < n → D ∣ rwz C m d X W k) → D ∣ gwz C m d X W n := by
  intro n
  induction n with
  | zero =>
    intro _
    rw [show ((0 : Nat) : Int) = 0 from rfl, gwz_0]
    exact ⟨0, by omega⟩
  | succ n ih =>
    intro h
    have e : ((n + 1 : Nat) : Int) = (n : Int) + 1 := by omega
    rw [e, gwz_s (by omega)]
    exact Int.dvd_coe_gcd (ih (fun k k0 k1 => h k k0 (by omega))) (h n (by omega) (by omega))
/-- the sum of the weights without their signs -/
def wsz (C : Int) (wt : Int → Int) : Int := smz (fun k => ((wt k).natAbs : Int)) C.toNat 0
theorem wsz_b {s G V v : Nat} {rz : Int → Int} (c0 : 0 ≤ C) (hi : Inj C X) (hG : 0 < G) (hV : 0 < V) (hr : ∀ k, 0 ≤ k → k < C → rwz C m d X W k = rz (plz C X k)) (hd : ∀ p, 0 ≤ p → p < C → (G : Int) ∣ rz p) (hg : gwz C m d X W C ≠ 0) (hs : smz (fun p => ((rz p).natAbs : Int)) C.toNat 0 ≤ (s * G : Nat)) (hv : V ≤ v * G) :
    wsz C (wtz C m d X W) ≤ s ∧ (G : Int) ≤ (gwz C m d X W C).natAbs ∧ ∀ D : Int, D * gwz C m d X W C = V → D.natAbs ≤ v := by
  have dv : (G : Int) ∣ gwz C m d X W C := by
    have h := gwz_u (C := C) (m := m) (d := d) (X := X) (W := W) (D := G) C.toNat (fun k k0 k1 => by
      rw [hr k k0 (by omega)]
      exact hd _ (plz_ge C X k) (plz_r k0 (by omega)))
    rwa [show ((C.toNat : Nat) : Int) = C by omega] at h
  have le : G ≤ (gwz C m d X W C).natAbs := by
    have := Int.natAbs_dvd_natAbs.2 dv
    exact Nat.le_of_dvd (by omega) this
  refine ⟨?_, by omega, fun D hD => ?_⟩
  · have e1 : ((gwz C m d X W C).natAbs : Int) * wsz C (wtz C m d X W) = smz (fun p => ((rz p).natAbs : Int)) C.toNat 0 := by
      unfold wsz
      rw [← smz_m, ← smz_iv hi (fun k => ((gwz C m d X W C).natAbs : Int) * ((wtz C m d X W k).natAbs : Int))]
      refine smz_c _ _ (fun p p0 p1 => ?_)
      obtain ⟨i0, i1, i2⟩ := ivz_s hi (p := p) p0 (by omega)
      have e := hr _ i0 i1
      rw [i2, ← wtz_m i0 i1] at e
      rw [← e, Int.natAbs_mul, Int.natCast_mul, Int.mul_comm]
    rw [← e1] at hs
    have w0 : 0 ≤ wsz C (wtz C m d X W) := smz_ge _ _ (fun i _ _ => by omega)
    have h2 : (G : Int) * wsz C (wtz C m d X W) ≤ ((gwz C m d X W C).natAbs : Int) * wsz C (wtz C m d X W) := Int.mul_le_mul_of_nonneg_right (by omega) w0
    have h3 : (G : Int) * wsz C (wtz C m d X W) ≤ (G : Int) * s := by
      rw [Int.natCast_mul] at hs
      rw [Int.mul_comm (G : Int) (s : Int)]
      omega
    exact Int.le_of_mul_le_mul_left h3 (by omega)
  · have e : D.natAbs * (gwz C m d X W C).natAbs = V := by
      rw [← Int.natAbs_mul, hD]
      rfl
    have h : D.natAbs * G ≤ v * G := Nat.le_trans (Nat.mul_le_mul_left _ le) (by omega)
    exact Nat.le_of_mul_le_mul_right h hG
theorem smz_wb {wt F : Int → Int} {B : Nat} (hF : ∀ k, 0 ≤ k → k < C → (F k).natAbs ≤ B) : ((smz (fun k => wt k * F k) C.toNat 0).natAbs : Int) ≤ B * wsz C wt := by
  refine Int.le_trans (smz_ab _ _ _) ?_
  unfold wsz
  rw [← smz_m]
  refine smz_le _ _ (fun i i0 i1 => ?_)
  rw [Int.natAbs_mul, Int.natCast_mul, Int.mul_comm]
  exact Int.mul_le_mul_of_nonneg_right (by have := hF i i0 (by omega); omega) (by omega)
end WSM
