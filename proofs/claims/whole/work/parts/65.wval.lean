/-! writeValues. -/
/-- a fraction -/
noncomputable def fra (t b : Int) : List Int := (if 0 ≤ t then [] else [45]) ++ (dgs t.natAbs ++ (if b = 1 then [] else [47] ++ dgs b.natAbs))
theorem fra_l {t b : Int} (h0 : t.natAbs ≤ 124026212545200000) (h1 : 0 < b) (h2 : b ≤ 124026212545200000) : (fra t b).length ≤ 40 ∧ Chr (fra t b) := by
  have a := dgs_l (n := t.natAbs) (by omega)
  have c := dgs_l (n := b.natAbs) (by omega)
  unfold fra
  constructor
  · rw [List.length_append, List.length_append]
    have l1 : (if 0 ≤ t then ([] : List Int) else [45]).length ≤ 1 := by split <;> decide
    have l2 : (if b = 1 then ([] : List Int) else [47] ++ dgs b.natAbs).length ≤ 20 := by
      split
      · exact Nat.zero_le _
      · rw [List.length_append]
        show 1 + _ ≤ 20
        omega
    omega
  · apply Chr.p
    · split
      · exact Chr.n
      · exact Chr.o (by omega) (by omega)
    · apply (Chr.d _).p
      split
      · exact Chr.n
      · exact (Chr.o (by omega) (by omega)).p (Chr.d _)
section FRA
variable {L : List Int} {c : Int32} {f : Nat → Int32} {t b : Int}
theorem slash3 (h : Wr L c f) (h1 : 0 < b) (h2 : b ≤ 124026212545200000) (hl : L.length ≤ 290) : ∃ c1 f1, (if z6 b = 1 then some (c, f) else (mX4_put c f 47).bind fun r => (mX4_putDigits r.1 r.2 (z6 b)).bind fun r => some (r.1, r.2)) = some (c1, f1) ∧ Wr (L ++ (if b = 1 then [] else [47] ++ dgs b.natAbs)) c1 f1 := by
  by_cases w : b = 1
  · rw [if_pos (by rw [w]; rfl), if_pos w, List.append_nil]
    exact ⟨c, f, rfl, h⟩
  · obtain ⟨c1, f1, e1, e2⟩ := put4 h (by omega) (v := 47) (by omega) (by omega)
    obtain ⟨c2, f2, e3, e4⟩ := dig4 (n := b.natAbs) e2 (by omega) (by rw [List.length_append]; show L.length + 1 ≤ 300; omega)
    rw [show ((b.natAbs : Nat) : Int) = b by omega] at e3
    rw [if_neg (fun q => w ((z6eq (by omega) (by omega) (by omega) (by omega)).1 (Eq.trans q l6_1))), if_neg w, l3_47, e1, Option.bind_some, e3]
    refine ⟨c2, f2, rfl, ?_⟩
    rw [List.append_assoc] at e4
    exact e4
theorem slash7 (h : Wr L c f) (h1 : 0 < b) (h2 : b ≤ 124026212545200000) (hl : L.length ≤ 290) : ∃ c1 f1, (if z6 b = 1 then some (f, c) else (mX7_says f c 47).bind fun r => (mX7_saysNumber 24 r.1 r.2 (z6 b)).bind fun r => some (r.1, r.2)) = some (f1, c1) ∧ Wr (L ++ (if b = 1 then [] else [47] ++ dgs b.natAbs)) c1 f1 := by
  by_cases w : b = 1
  · rw [if_pos (by rw [w]; rfl), if_pos w, List.append_nil]
    exact ⟨c, f, rfl, h⟩
  · obtain ⟨c1, f1, e1, e2⟩ := says7 h (by omega) 47
    obtain ⟨c2, f2, e3, e4⟩ := dig7 (n := b.natAbs) (t := 24) e2 (by omega) (by rw [List.length_append]; show L.length + 1 ≤ 300; omega) (by omega)
    rw [show ((b.natAbs : Nat) : Int) = b by omega] at e3
    rw [if_neg (fun q => w ((z6eq (by omega) (by omega) (by omega) (by omega)).1 (Eq.trans q l6_1))), if_neg w, l3_47, e1, Option.bind_some, e3]
    refine ⟨c2, f2, rfl, ?_⟩
    rw [List.append_assoc] at e4
    exact e4
theorem fra3 (h : Wr L c f) (h0 : t.natAbs ≤ 124026212545200000) (h1 : 0 < b) (h2 : b ≤ 124026212545200000) (hl : L.length ≤ 260) : ∃ c1 f1, mX4_putFraction c f (z6 b) (z6 t) = some (c1, f1) ∧ Wr (L ++ fra t b) c1 f1 := by
  have p0 : mX1_part (z6 b) (z6 t) 0 = some (z6 t) := rfl
  have p1 : mX1_part (z6 b) (z6 t) 1 = some (z6 b) := rfl
  have dl := dgs_l (n := t.natAbs) (by omega)
  unfold mX4_putFraction fra
  rw [p0, p1]
  simp only [Option.bind_some]
  rw [zabs6 (by omega) (by omega)]
  by_cases w : 0 ≤ t
  · rw [if_pos (l6_0 ▸ (z6le (by omega) (by omega) (by omega) (by omega)).2 w), if_pos w, List.nil_append]
    obtain ⟨c1, f1, e1, e2⟩ := dig4 (n := t.natAbs) h (by omega) (by omega)
    obtain ⟨c2, f2, e3, e4⟩ := slash3 e2 h1 h2 (by rw [List.length_append]; omega)
    rw [e1, Option.bind_some]
    rw [List.append_assoc] at e4
    exact ⟨c2, f2, e3, e4⟩
  · rw [if_neg (fun q => w ((z6le (by omega) (by omega) (by omega) (by omega)).1 (l6_0 ▸ q))), if_neg w]
    obtain ⟨c0, f0, e5, e6⟩ := put4 h (by omega) (v := 45) (by omega) (by omega)
    have l0 : (L ++ [(45 : Int)]).length = L.length + 1 := List.length_append
    obtain ⟨c1, f1, e1, e2⟩ := dig4 (n := t.natAbs) e6 (by omega) (by omega)
    obtain ⟨c2, f2, e3, e4⟩ := slash3 e2 h1 h2 (by rw [List.length_append]; omega)
    rw [l3_45, e5, Option.bind_some, e1, Option.bind_some]
    rw [List.append_assoc, List.append_assoc] at e4
    exact ⟨c2, f2, e3, e4⟩
theorem sgn7 (h : Wr L c f) (h0 : t.natAbs ≤ 124026212545200000) (hl : L.length ≤ 260) : ∃ c1 f1, mX7_saysNumber 24 f c (z6 t) = some (f1, c1) ∧ Wr (L ++ ((if 0 ≤ t then [] else [45]) ++ dgs t.natAbs)) c1 f1 := by
  by_cases w : 0 ≤ t
  · rw [if_pos w, List.nil_append]
    obtain ⟨c1, f1, e1, e2⟩ := dig7 (n := t.natAbs) (t := 24) h (by omega) (by omega) (by omega)
    rw [show ((t.natAbs : Nat) : Int) = t by omega] at e1
    exact ⟨c1, f1, e1, e2⟩
  · rw [if_neg w]
    obtain ⟨c0, f0, e5, e6⟩ := says7 h (by omega) 45
    have l0 : (L ++ [(45 : Int)]).length = L.length + 1 := List.length_append
    obtain ⟨c1, f1, e1, e2⟩ := dig7 (n := t.natAbs) (t := 23) e6 (by omega) (by omega) (by omega)
    rw [show ((t.natAbs : Nat) : Int) = -t by omega] at e1
    refine ⟨c1, f1, ?_, ?_⟩
    · rw [mX7_saysNumber, if_neg (fun q => w ((z6le (by omega) (by omega) (by omega) (by omega)).1 (l6_0 ▸ q))), l3_45, e5, Option.bind_some, z6n, e1]
      rfl
    · rw [List.append_assoc] at e2
      exact e2
end FRA
/-- what is written of the value at a whole number -/
noncomputable def vlw (a : AZ) (x : Int) : List Int := if kiz (zC a) (zX a) (zY a) (zw a) x ≤ 1 then fra (vT (zC a) (zX a) (zY a) (zw a) x) (vB (zC a) (zX a) (zY a) (zw a) x) else if kiz (zC a) (zX a) (zY a) (zw a) x = 2 then [33] else [63]
noncomputable def lvz (a : AZ) (m : Nat) : List Int := itz (fun j L => (if j = 0 then L else L ++ [32]) ++ vlw a (j - 3)) m 0 []
theorem lvz_s (a : AZ) {j : Int} (h : 0 ≤ j) : lvz a (j + 1).toNat = (if j = 0 then lvz a j.toNat else lvz a j.toNat ++ [32]) ++ vlw a (j - 3) := by
  unfold lvz
  rw [show (j + 1).toNat = j.toNat + 1 by omega, itz_e, show (0 : Int) + (j.toNat : Int) = j by omega]
theorem vlw_l {a : AZ} (hO : OkZ a) {x : Int} (x0 : -12 ≤ x) (x1 : x ≤ 12) : (vlw a x).length ≤ 40 ∧ Chr (vlw a x) := by
  have hb := hO.bw
  obtain ⟨h0, h5, m0, m1, d0, d1, hr, hry, hrw, hi⟩ := hO
  unfold vlw
  by_cases c : kiz (zC a) (zX a) (zY a) (zw a) x ≤ 1
  · rw [if_pos c]
    have := v_b h0 h5 hr hry hb x0 x1 c
    exact fra_l this.1 this.2.1 this.2.2
  · rw [if_neg c]
    split
    · exact ⟨by decide, Chr.o (by omega) (by omega)⟩
    · exact ⟨by decide, Chr.o (by omega) (by omega)⟩
theorem lvz_l {a : AZ} (hO : OkZ a) : ∀ m : Nat, m ≤ 7 → (lvz a m).length ≤ 41 * m ∧ Chr (lvz a m) := by
  intro m
  induction m with
  | zero => intro _; exact ⟨Nat.le_refl _, Chr.n⟩
  | succ m ih =>
    intro hm
    obtain ⟨i1, i2⟩ := ih (by omega)
    have e := lvz_s a (j := m) (by omega)
    rw [show ((m : Int) + 1).toNat = m + 1 by omega, show ((m : Int)).toNat = m by omega] at e
    have b := vlw_l hO (x := m - 3) (by omega) (by omega)
    rw [e]
    have l1 : (if (m : Int) = 0 then lvz a m else lvz a m ++ [32]).length ≤ 41 * m + 1 ∧ Chr (if (m : Int) = 0 then lvz a m else lvz a m ++ [32]) := by
      split
      · exact ⟨by omega, i2⟩
      · exact ⟨by rw [List.length_append]; show _ + 1 ≤ _; omega, i2.a (by omega) (by omega)⟩
    exact ⟨by rw [List.length_append]; omega, l1.2.p b.2⟩
section VW
variable {a : AZ} {L : List Int} {c : Int32} {f : Nat → Int32} {x : Int}
theorem vw3 {den num : Nat → Int64} (hO : OkZ a) (hv : Crv (zC a) (zX a) (zY a) (zw a) den num) (h : Wr L c f) (hl : L.length ≤ 260) (x0 : -12 ≤ x) (x1 : x ≤ 12) (b t : Int64) :
    ∃ b1 t1 c1 f1, Wr (L ++ vlw a x) c1 f1 ∧ ∀ (β : Type) (F : Int64 → Int64 → Int32 → (Nat → Int32) → Option β), ((mX0_putValue den num b t (z3 x)).bind fun r5 => if r5.1 = 0 then (mX0_kindOf den num (z3 x)).bind fun r7 => if r7 = 2 then (mX4_put c f 33).bind fun r10 => F r5.2.1 r5.2.2 r10.1 r10.2 else (mX4_put c f 63).bind fun r9 => F r5.2.1 r5.2.2 r9.1 r9.2 else (mX4_putFraction c f r5.2.1 r5.2.2).bind fun r11 => F r5.2.1 r5.2.2 r11.1 r11.2) = F b1 t1 c1 f1 := by
  have hb := hO.bw
  obtain ⟨h0, h5, m0, m1, d0, d1, hr, hry, hrw, hi⟩ := hO
  unfold vlw
  by_cases q : kiz (zC a) (zX a) (zY a) (zw a) x ≤ 1
  · have v := v_b h0 h5 hr hry hb x0 x1 q
    obtain ⟨c1, f1, e1, e2⟩ := fra3 h v.1 v.2.1 v.2.2 hl
    rw [if_pos q]
    refine ⟨z6 (vB (zC a) (zX a) (zY a) (zw a) x), z6 (vT (zC a) (zX a) (zY a) (zw a) x), c1, f1, e2, fun β F => ?_⟩
    rw [put3y h0 h5 hr hry hb hv x0 x1 q, Option.bind_some, if_neg n10]
    dsimp only
    rw [e1]
    rfl
  · rw [if_neg q]
    by_cases q2 : kiz (zC a) (zX a) (zY a) (zw a) x = 2
    · obtain ⟨c1, f1, e1, e2⟩ := put4 h (by omega) (v := 33) (by omega) (by omega)
      rw [if_pos q2]
      refine ⟨b, t, c1, f1, e2, fun β F => ?_⟩
      rw [put3n h0 h5 hr hry hb hv x0 x1 q, Option.bind_some, if_pos rfl, kind3 h0 h5 hr hry hb hv x0 x1, Option.bind_some, if_pos (by rw [q2]; rfl), l3_33, e1]
      rfl
    · obtain ⟨c1, f1, e1, e2⟩ := put4 h (by omega) (v := 63) (by omega) (by omega)
      rw [if_neg q2]
      refine ⟨b, t, c1, f1, e2, fun β F => ?_⟩
      have kr := kiz_c (zC a) (zX a) (zY a) (zw a) x
      rw [put3n h0 h5 hr hry hb hv x0 x1 q, Option.bind_some, if_pos rfl, kind3 h0 h5 hr hry hb hv x0 x1, Option.bind_some, if_neg (fun w => q2 ((z3eq (by omega) (by omega) (by omega) (by omega)).1 (Eq.trans w l3_2))), l3_63, e1]
      rfl
theorem vw7 {s : Nat → Int32} {w : Nat → Int64} (hO : OkZ a) (h7 : N7 a s) (hw : E6 (zC a) w (zw a)) (h : Wr L c f) (hl : L.length ≤ 260) (x0 : -12 ≤ x) (x1 : x ≤ 12) (b t : Int64) :
    ∃ b1 t1 c1 f1, Wr (L ++ vlw a x) c1 f1 ∧ mX7_saysValue b f c s t w (z3 x) = some (b1, f1, c1, t1) := by
  have hb := hO.bw
  obtain ⟨h0, h5, m0, m1, d0, d1, hr, hry, hrw, hi⟩ := hO
  obtain ⟨s0, s1, s2, tx, ty, tw⟩ := h7
  unfold vlw
  have kr := kiz_c (zC a) (zX a) (zY a) (zw a) x
  by_cases q : kiz (zC a) (zX a) (zY a) (zw a) x ≤ 1
  · have v := v_b h0 h5 hr hry hb x0 x1 q
    obtain ⟨c1, f1, e1, e2⟩ := sgn7 h v.1 hl
    have dl := dgs_l (n := (vT (zC a) (zX a) (zY a) (zw a) x).natAbs) (by omega)
    have l1 : (if 0 ≤ vT (zC a) (zX a) (zY a) (zw a) x then ([] : List Int) else [45]).length ≤ 1 := by split <;> decide
    obtain ⟨c2, f2, e3, e4⟩ := slash7 e2 v.2.1 v.2.2 (by rw [List.length_append, List.length_append]; omega)
    rw [if_pos q]
    refine ⟨z6 (vB (zC a) (zX a) (zY a) (zw a) x), z6 (vT (zC a) (zX a) (zY a) (zw a) x), c2, f2, ?_, ?_⟩
    · unfold fra
      rw [List.append_assoc, List.append_assoc] at e4
      exact e4
    · unfold mX7_saysValue
      rw [kind7y h0 h5 s2 tx ty hr hry hb hw x0 x1 q, Option.bind_some, if_pos (l3_1 ▸ (z3le (by omega) (by omega) (by omega) (by omega)).2 q)]
      dsimp only
      rw [e1, Option.bind_some]
      by_cases w : z6 (vB (zC a) (zX a) (zY a) (zw a) x) = 1
      · rw [if_pos w] at e3 ⊢
        cases e3
        rfl
      · rw [if_neg w] at e3 ⊢
        obtain ⟨r, hr1, hr2⟩ := Option.bind_eq_some_iff.1 e3
        obtain ⟨r', hr3, hr4⟩ := Option.bind_eq_some_iff.1 hr2
        rw [hr1, Option.bind_some, hr3]
        cases hr4
        rfl
  · rw [if_neg q]
    by_cases q2 : kiz (zC a) (zX a) (zY a) (zw a) x = 2
    · obtain ⟨c1, f1, e1, e2⟩ := says7 h (by omega) 33
      rw [if_pos q2]
      refine ⟨b, t, c1, f1, e2, ?_⟩
      unfold mX7_saysValue
      rw [kind7n h0 h5 s2 tx ty hr hry hb hw x0 x1 q, Option.bind_some, if_neg (fun w => q ((z3le (by omega) (by omega) (by omega) (by omega)).1 (l3_1 ▸ w))), if_pos (by show z3 _ = _; rw [q2]; rfl), l3_33, e1]
      rfl
    · obtain ⟨c1, f1, e1, e2⟩ := says7 h (by omega) 63
      rw [if_neg q2]
      refine ⟨b, t, c1, f1, e2, ?_⟩
      unfold mX7_saysValue
      rw [kind7n h0 h5 s2 tx ty hr hry hb hw x0 x1 q, Option.bind_some, if_neg (fun w => q ((z3le (by omega) (by omega) (by omega) (by omega)).1 (l3_1 ▸ w))), if_neg (fun w => q2 ((z3eq (by omega) (by omega) (by omega) (by omega)).1 (Eq.trans w l3_2))), l3_63, e1]
      rfl
end VW
theorem ok_41 : SOK q_41 := by
  intro u z h
  obtain ⟨a, hO, ⟨⟨hc, hd, hm, hw, hx, hy⟩, ⟨hv, ho, hwt⟩⟩, ⟨s0, s1, s2, tx, ty, tw⟩⟩ := h.1
  have O := hO
  obtain ⟨h0, h5, m0, m1, d0, d1, hr, hry, hrw, hi⟩ := O
  have hbw := hO.bw
  obtain ⟨o1, w1, e1, e2, e3⟩ := lw7 hO ⟨s0, s1, s2, tx, ty, tw⟩ (a7_order z.2.1) (a7_weights z.2.1)
  unfold q_41
  obtain ⟨A, f1, a1, a2⟩ := runr (fun n j (q : Int64 × Int64 × Int32 × (Nat → Int32)) => lX6_writeValues_10 (a6_present_denominator z.1) (a6_present_numerator z.1) n (z3 (j - 3)) q.1 q.2.1 q.2.2.1 q.2.2.2) (fun j q => 0 ≤ j ∧ Wr (lvz a j.toNat) q.2.2.1 q.2.2.2) 7 (fun q => q)
    (fun n j q hj hp => by
      obtain ⟨p1, p2⟩ := hp
      have l := (lvz_l hO j.toNat (by omega)).1
      try dsimp only
      rw [lX6_writeValues_10, if_neg (fun w => by have := (z3lt (by omega) (by omega) (by omega) (by omega)).1 (l3_3 ▸ w); omega), show (-3 : Int32) = z3 (-3) from rfl, lvz_s a p1, l3_1, z3a, show j - 3 + 1 = j + 1 - 3 by omega]
      by_cases c : j = 0
      · obtain ⟨b1, t1, c1, f1, e1, e2⟩ := vw3 hO hv p2 (by omega) (x := j - 3) (by omega) (by omega) q.1 q.2.1
        rw [if_pos ((z3le (by omega) (by omega) (by omega) (by omega)).2 (by omega)), if_pos c]
        refine ⟨(b1, t1, c1, f1), ?_, by omega, e1⟩
        exact e2 _ (fun b t c f => lX6_writeValues_10 (a6_present_denominator z.1) (a6_present_numerator z.1) n (z3 (j + 1 - 3)) b t c f)
      · obtain ⟨c0, f0, g1, g2⟩ := put4 p2 (by omega) (v := 32) (by omega) (by omega)
        have l0 : (lvz a j.toNat ++ [(32 : Int)]).length = (lvz a j.toNat).length + 1 := List.length_append
        obtain ⟨b1, t1, c1, f1, e1, e2⟩ := vw3 hO hv g2 (by omega) (x := j - 3) (by omega) (by omega) q.1 q.2.1
        rw [if_neg (fun w => by have := (z3le (by omega) (by omega) (by omega) (by omega)).1 w; omega), if_neg c, l3_32, g1, Option.bind_some]
        refine ⟨(b1, t1, c1, f1), ?_, by omega, e1⟩
        exact e2 _ (fun b t c f => lX6_writeValues_10 (a6_present_denominator z.1) (a6_present_numerator z.1) n (z3 (j + 1 - 3)) b t c f))
    (fun n q hp => by
      try dsimp only
      rw [lX6_writeValues_10, if_pos (by decide)])
    7 FU 0 (a6_answer_bottom z.1, a6_answer_top z.1, z3 0, a6_output_signs z.1) (by omega) (by decide) ⟨by omega, rfl, fun i v e => by cases e⟩
  obtain ⟨B, f2, b1, b2⟩ := runr (fun n j (q : Int64 × (Nat → Int32) × Int32 × Int64) => lX7_writeValues_17 (a7_s z.2.1) w1 n (z3 (j - 3)) q.1 q.2.1 q.2.2.1 q.2.2.2) (fun j q => 0 ≤ j ∧ Wr (lvz a j.toNat) q.2.2.1 q.2.1) 7 (fun q => q)
    (fun n j q hj hp => by
      obtain ⟨p1, p2⟩ := hp
      have l := (lvz_l hO j.toNat (by omega)).1
      try dsimp only
      rw [lX7_writeValues_17, if_neg (fun w => by have := (z3lt (by omega) (by omega) (by omega) (by omega)).1 (l3_3 ▸ w); omega), show (-3 : Int32) = z3 (-3) from rfl, lvz_s a p1, l3_1, z3a, show j - 3 + 1 = j + 1 - 3 by omega]
      by_cases c : j = 0
      · obtain ⟨b1, t1, c1, f1, e1, e2⟩ := vw7 hO ⟨s0, s1, s2, tx, ty, tw⟩ e3 p2 (by omega) (x := j - 3) (by omega) (by omega) q.1 q.2.2.2
        rw [if_pos ((z3le (by omega) (by omega) (by omega) (by omega)).2 (by omega)), if_pos c, e2]
        exact ⟨(b1, f1, c1, t1), rfl, by omega, e1⟩
      · obtain ⟨c0, f0, g1, g2⟩ := says7 p2 (by omega) 32
        have l0 : (lvz a j.toNat ++ [(32 : Int)]).length = (lvz a j.toNat).length + 1 := List.length_append
        obtain ⟨b1, t1, c1, f1, e1, e2⟩ := vw7 hO ⟨s0, s1, s2, tx, ty, tw⟩ e3 g2 (by omega) (x := j - 3) (by omega) (by omega) q.1 q.2.2.2
        rw [if_neg (fun w => by have := (z3le (by omega) (by omega) (by omega) (by omega)).1 w; omega), if_neg c, l3_32, g1, Option.bind_some, e2]
        exact ⟨(b1, f1, c1, t1), rfl, by omega, e1⟩)
    (fun n q hp => by
      try dsimp only
      rw [lX7_writeValues_17, if_pos (by decide)])
    7 FU 0 (a7_low z.2.1, a7_output z.2.1, z3 0, a7_up z.2.1) (by omega) (by decide) ⟨by omega, rfl, fun i v e => by cases e⟩
  have f1 : lX6_writeValues_10 (a6_present_denominator z.1) (a6_present_numerator z.1) FU (-3) (a6_answer_bottom z.1) (a6_answer_top z.1) 0 (a6_output_signs z.1) = some A := f1
  have f2 : lX7_writeValues_17 (a7_s z.2.1) w1 FU (-3) (a7_low z.2.1) (a7_output z.2.1) 0 (a7_up z.2.1) = some B := f2
  obtain ⟨ll, lc⟩ := lvz_l hO 7 (by omega)
  have a2 : Wr (lvz a 7) A.2.2.1 A.2.2.2 := a2
  have b2 : Wr (lvz a 7) B.2.2.1 B.2.1 := b2
  have cc : B.2.2.1 = A.2.2.1 := b2.1.trans a2.1.symm
  have m6 : mX6_writeValues (a6_answer_bottom z.1) (a6_answer_top z.1) (a6_output_count z.1) (a6_output_signs z.1) (a6_present_denominator z.1) (a6_present_numerator z.1) = some (A.2.2.1, A.1, A.2.1, A.2.2.1, A.2.2.2) := by
    unfold mX6_writeValues mX4_clear mX4_size
    rw [Option.bind_some, f1]
    rfl
  have m7 : mX7_writeValues (a7_low z.2.1) (a7_order z.2.1) (a7_output z.2.1) (a7_outputLength z.2.1) (a7_s z.2.1) (a7_thrown z.2.1) (a7_up z.2.1) (a7_weights z.2.1) = some (A.2.2.1, B.1, o1, B.2.1, B.2.2.1, 0, B.2.2.2, w1) := by
    unfold mX7_writeValues
    rw [e1, Option.bind_some]
    dsimp only
    rw [f2, ← cc]
    rfl
  have E6 : ∃ σ1, s6_writeValues z.1 = some (A.2.2.1, σ1) ∧ ∀ τ1, (∃ a, OkZ a ∧ J6 a z.1 ∧ N7 a (a7_s τ1)) → JH (a6_history_count z.1) (a6_history_kept_E_count z.1) (a6_history_kept_E_mode z.1) (a6_history_kept_E_degree z.1) (a6_history_kept_E_ws z.1) (a6_history_kept_E_xs z.1) (a6_history_kept_E_ys z.1) (a7_edits τ1) (a7_history τ1) → JB (a6_text_filled z.1) (a7_buffered τ1) (a6_text_bytes z.1) (a7_buffer τ1) → (a6_text_faultKind z.1 = a7_errorKind τ1 ∧ a6_text_faultPosition z.1 = a7_errorPosition τ1) → JO A.2.2.1 (a7_outputLength τ1) A.2.2.2 (a7_output τ1) → JZ σ1 τ1 := by
    apply Exists.intro
    refine ⟨?_, ?_⟩
    · unfold s6_writeValues
      rw [m6]
      rfl
    · exact fun τ1 x1 x2 x3 x4 x5 => ⟨x1, x2, x3, x4, x5⟩
  have E7 : ∃ τ1, s7_writeValues z.2.1 = some (A.2.2.1, τ1) ∧ a7_outputLength τ1 = B.2.2.1 ∧ a7_output τ1 = B.2.1 ∧ a7_edits τ1 = a7_edits z.2.1 ∧ a7_history τ1 = a7_history z.2.1 ∧ a7_s τ1 = a7_s z.2.1 ∧ a7_buffered τ1 = a7_buffered z.2.1 ∧ a7_buffer τ1 = a7_buffer z.2.1 ∧ a7_errorKind τ1 = a7_errorKind z.2.1 ∧ a7_errorPosition τ1 = a7_errorPosition z.2.1 := by
    apply Exists.intro
    refine ⟨?_, ?_⟩
    · unfold s7_writeValues
      rw [m7]
      rfl
    · exact ⟨rfl, rfl, rfl, rfl, rfl, rfl, rfl, rfl, rfl⟩
  obtain ⟨σ1, g6, j6⟩ := E6
  obtain ⟨τ1, g7, i1, i2, i3, i4, i5, i6, i7, i8, i9⟩ := E7
  refine fin0 g6 g7 (j6 τ1 ?_ ?_ ?_ ?_ ?_)
  · rw [i5]
    exact h.1
  · rw [i3, i4]
    exact h.2.1
  · rw [i6, i7]
    exact h.2.2.1
  · rw [i8, i9]
    exact h.2.2.2.1
  · rw [i1, i2]
    exact JO.w a2 b2 lc (by omega)
