/-! ===== what the start gives ===== -/
theorem st_sel {s : State} {args : Array Value} {C : String} {n : Nat} {y : MethodName} (hins : (Cond.instantiable C n).before args s = true) (hpriv : (Cond.privateMethod y).before args s = true) (hinst : (Cond.instanceMethod y).before args s = true) (hsame : (Cond.sameMethod y.cls y.cls y.name y.desc).before args s = true) : (Cond.selects C y y).before args s = true := by
  obtain ⟨c, k, hc, hk, -⟩ := Cond.instantiable_spec hins
  obtain ⟨c2, k2, r, hc2, hk2, hi, hf, hn⟩ := Cond.sameMethod_found hsame
  obtain ⟨mk, methM, hnamed, hmethM, -, -⟩ := Cond.instanceMethod_spec hinst
  have e : mk = r := Option.some.inj (hnamed.symm.trans hn)
  subst e
  have hcls : mk.cls = c2 := Option.some.inj ((findClass_of_methodNamed hnamed).symm.trans hc2)
  have hsel : selectMethod {} s.vm c mk = .method mk := selectMethod_private hmethM (Cond.privateMethod_at hpriv mk methM hnamed hmethM)
  simp only [Cond.before, Cond.holds, Cond.value, hc, hf, hnamed, hsel, hcls, hk2]
  simp
  exact hi
theorem wX_ok : ∀ w ∈ wX, ∃ y : MethodName, w = .selects RJ4 y y ∧ Cond.privateMethod y ∈ lw_tbl ∧ Cond.instanceMethod y ∈ lw_tbl ∧ Cond.sameMethod y.cls y.cls y.name y.desc ∈ lw_tbl := by
  intro w hw
  have m : ∀ i, ∀ z : Cond, tables_1[i]? = some z → z ∈ lw_tbl := fun i z h => List.mem_append_right _ (List.mem_of_getElem? h)
  rcases List.mem_cons.mp hw with rfl | hw
  · exact ⟨_, rfl, m 608 _ (by decide +kernel), m 609 _ (by decide +kernel), m 986 _ (by decide +kernel)⟩
  rcases List.mem_cons.mp hw with rfl | hw
  · exact ⟨_, rfl, m 612 _ (by decide +kernel), m 613 _ (by decide +kernel), m 987 _ (by decide +kernel)⟩
  rcases List.mem_cons.mp hw with rfl | hw
  · exact ⟨_, rfl, m 660 _ (by decide +kernel), m 661 _ (by decide +kernel), m 988 _ (by decide +kernel)⟩
  rcases List.mem_cons.mp hw with rfl | hw
  · exact ⟨_, rfl, m 664 _ (by decide +kernel), m 665 _ (by decide +kernel), m 989 _ (by decide +kernel)⟩
  · exact absurd hw List.not_mem_nil
theorem st_G {s : State} {args : Array Value} (hts : ∀ w ∈ lw_tbl, w.before args s = true) : ∀ w ∈ wG, w.before args s = true := by
  intro w hw
  rcases List.mem_append.mp (List.mem_filter.mp hw).1 with h | h
  · exact hts w h
  · obtain ⟨y, rfl, h1, h2, h3⟩ := wX_ok w h
    exact st_sel (hts (.instantiable RJ4 4) (List.mem_append_right _ (List.mem_of_getElem? (i := 567) (by decide +kernel)))) (hts _ h1) (hts _ h2) (hts _ h3)
theorem st_arr {s : State} {args : Array Value} {ty : FieldType} (h : (Cond.arrayClass ty).before args s = true) (hob : ∀ C, ty ≠ .object C) : ∃ cA : ClassId, ArrOfT s cA ty ∧ va_RA s cA ty := by
  obtain ⟨c, k, comp, h1, h2, h3⟩ := Cond.arrayClass_spec h
  refine ⟨c, fun n z => ⟨(fun k h => by cases h), k, h2, comp, h3⟩, ?_⟩
  cases ty <;> first | exact h1 | exact absurd rfl (hob _)
theorem st_arrO {s : State} {args : Array Value} {C : String} (h : (Cond.arrayOver (.object C)).before args s = true) : ∃ cA : ClassId, ArrOfT s cA (.object C) ∧ va_RA s cA (.object C) := by
  obtain ⟨comp, c, k, h1, h2, h3, h4, h5⟩ := Cond.arrayOver_spec h
  exact ⟨c, fun n z => ⟨(fun k h => by cases h), k, h3, comp, h4⟩, k, comp, h3, h4, h1, h5⟩
theorem st_K {s : State} {args : Array Value} (hts : ∀ w ∈ lw_tbl, w.before args s = true) : ∃ (D : va_G) (g : Nat → ClassId), va_K D vwCl (tyA g) s := by
  have hG := st_G hts
  have m : ∀ i, ∀ z : Cond, tables_1[i]? = some z → z ∈ lw_tbl := fun i z h => List.mem_append_right _ (List.mem_of_getElem? h)
  obtain ⟨c0, i0, k0⟩ := u_known (C := RX0) (T := TX0) (N := 7) (n := 7) hG cw_X0 (hts (.instantiable RX0 7) (m 67 _ (by decide +kernel)))
  obtain ⟨c1, i1, k1⟩ := u_known (C := RX1) (T := TX1) (N := 2) (n := 2) hG cw_X1 (hts (.instantiable RX1 2) (m 158 _ (by decide +kernel)))
  obtain ⟨c2, i2, k2⟩ := u_known (C := RX2) (T := TX2) (N := 2) (n := 2) hG cw_X2 (hts (.instantiable RX2 2) (m 128 _ (by decide +kernel)))
  obtain ⟨c3, i3, k3⟩ := u_known (C := RX3) (T := TX3) (N := 6) (n := 6) hG cw_X3 (hts (.instantiable RX3 6) (m 73 _ (by decide +kernel)))
  obtain ⟨c4, i4, k4⟩ := u_known (C := RX4) (T := TX4) (N := 2) (n := 2) hG cw_X4 (hts (.instantiable RX4 2) (m 144 _ (by decide +kernel)))
  obtain ⟨c5, i5, k5⟩ := u_known (C := RX5) (T := TX5) (N := 8) (n := 8) hG cw_X5 (hts (.instantiable RX5 8) (m 35 _ (by decide +kernel)))
  obtain ⟨c6, i6, k6⟩ := u_known (C := RX6) (T := TX6) (N := 7) (n := 7) hG cw_X6 (hts (.instantiable RX6 7) (m 27 _ (by decide +kernel)))
  obtain ⟨c7, i7, k7⟩ := u_known (C := RJ0) (T := TJ0) (N := 4) (n := 4) hG cw_J0 (hts (.instantiable RJ0 4) (m 727 _ (by decide +kernel)))
  obtain ⟨c8, i8, k8⟩ := u_known (C := RJ4) (T := TJ4) (N := 4) (n := 4) hG cw_J4 (hts (.instantiable RJ4 4) (m 567 _ (by decide +kernel)))
  obtain ⟨c9, i9, k9⟩ := u_known (C := RL) (T := TL) (N := 6) (n := 6) hG cw_L (hts (.instantiable RL 6) (m 353 _ (by decide +kernel)))
  obtain ⟨g0, a0⟩ := st_arr (hG _ ac_0) (fun C h => by cases h)
  obtain ⟨g1, a1⟩ := st_arr (hG _ ac_1) (fun C h => by cases h)
  obtain ⟨g2, a2⟩ := st_arr (hG _ ac_2) (fun C h => by cases h)
  obtain ⟨g3, a3⟩ := st_arr (hG _ ac_3) (fun C h => by cases h)
  obtain ⟨g4, a4⟩ := st_arrO (C := RX3) (hts _ (m 134 _ (by decide +kernel)))
  refine ⟨(fun k => match k with | 0 => c0 | 1 => c1 | 2 => c2 | 3 => c3 | 4 => c4 | 5 => c5 | 6 => c6 | 7 => c7 | 8 => c8 | _ => c9, fun k => match k with | 0 => i0 | 1 => i1 | 2 => i2 | 3 => i3 | 4 => i4 | 5 => i5 | 6 => i6 | 7 => i7 | 8 => i8 | _ => i9), fun k => match k with | 0 => g0 | 1 => g1 | 2 => g2 | 3 => g3 | _ => g4, ?_, ?_⟩
  · intro k q hq
    match k, hq with
    | 0, hq => cases hq; exact k0
    | 1, hq => cases hq; exact k1
    | 2, hq => cases hq; exact k2
    | 3, hq => cases hq; exact k3
    | 4, hq => cases hq; exact k4
    | 5, hq => cases hq; exact k5
    | 6, hq => cases hq; exact k6
    | 7, hq => cases hq; exact k7
    | 8, hq => cases hq; exact k8
    | 9, hq => cases hq; exact k9
    | k + 10, hq => cases hq
  · intro k q hq
    match k, hq with
    | 0, hq => cases hq; exact a0
    | 1, hq => cases hq; exact a1
    | 2, hq => cases hq; exact a2
    | 3, hq => cases hq; exact a3
    | 4, hq => cases hq; exact a4
    | k + 5, hq => cases hq
def fl9 : List Cond := flatC (Cond.and given_1 narrow_1)
def sT9 (i : Nat) : Term := .string (litO i) (litK i)
def sV9 (i : Nat) : Term := .field (sT9 i) "java/lang/String" "value" "[B"
def dT9 (n : String) : Term := .static "java/lang/Integer" n "[B"
theorem fl9_ex : ∀ i, i < 16 → Cond.exactly (sT9 i) "java/lang/String" ∈ fl9 := by decide +kernel
theorem fl9_co : ∀ i, i < 13 → Cond.eq (.field (sT9 i) "java/lang/String" "coder" "B") (.int 0) ∈ fl9 := by decide +kernel
theorem fl9_ar : ∀ i, i < 13 → Cond.arrayOf (sV9 i) .byte ∈ fl9 := by decide +kernel
theorem fl9_le : ∀ i, i < 13 → Cond.eq (.length (sV9 i)) (.int (Int32.ofNat (litB i).length)) ∈ fl9 := by decide +kernel
def fl9_p (i : Nat) : Nat := ([292, 314, 326, 338, 302, 0, 362, 379, 392, 413, 446, 468, 491] : List Nat).getD i 0
theorem fl9_el9 : ∀ i, i < 13 → ∀ j, j < (litB i).length → fl9[fl9_p i + j]? = some (Cond.eq (.elem (sV9 i) (.int (Int32.ofNat j))) (.int ((litB i).getD j 0))) := by decide +kernel
theorem fl9_el (i : Nat) (hi : i < 13) (j : Nat) (hj : j < (litB i).length) : Cond.eq (.elem (sV9 i) (.int (Int32.ofNat j))) (.int ((litB i).getD j 0)) ∈ fl9 := List.mem_of_getElem? (fl9_el9 i hi j hj)
theorem fl9_nc : ∀ a ∈ exL, ∀ b ∈ exL, a ≠ b → Cond.not (.castable a b) ∈ fl9 := by decide +kernel
theorem fl9_st : Cond.eq (.static "java/lang/String" "COMPACT_STRINGS" "Z") (.int 1) ∈ fl9 ∧ Cond.isRef (.static "jdk/internal/util/Preconditions" "SIOOBE_FORMATTER" "Ljava/util/function/BiFunction;") ∈ fl9 ∧ Cond.isRef (.static Bundle.tN "UNASSIGNED_STACK" Bundle.steD) ∈ fl9 ∧ Cond.isRef (.static Bundle.tN "SUPPRESSED_SENTINEL" Bundle.listD) ∈ fl9 := by decide +kernel
theorem fl9_da : (Cond.arrayOf (dT9 "DigitOnes") .byte ∈ fl9 ∧ Cond.eq (.length (dT9 "DigitOnes")) (.int (Int32.ofNat 100)) ∈ fl9) ∧ Cond.arrayOf (dT9 "DigitTens") .byte ∈ fl9 ∧ Cond.eq (.length (dT9 "DigitTens")) (.int (Int32.ofNat 100)) ∈ fl9 := by decide +kernel
theorem fl9_d19 : ∀ j, j < 100 → fl9[14 + j]? = some (Cond.eq (.elem (dT9 "DigitOnes") (.int (Int32.ofNat j))) (.int (nI (48 + j % 10)))) := by decide +kernel
theorem fl9_d1 (j : Nat) (hj : j < 100) : Cond.eq (.elem (dT9 "DigitOnes") (.int (Int32.ofNat j))) (.int (nI (48 + j % 10))) ∈ fl9 := List.mem_of_getElem? (fl9_d19 j hj)
theorem fl9_d29 : ∀ j, j < 100 → fl9[117 + j]? = some (Cond.eq (.elem (dT9 "DigitTens") (.int (Int32.ofNat j))) (.int (nI (48 + j / 10)))) := by decide +kernel
theorem fl9_d2 (j : Nat) (hj : j < 100) : Cond.eq (.elem (dT9 "DigitTens") (.int (Int32.ofNat j))) (.int (nI (48 + j / 10))) ∈ fl9 := List.mem_of_getElem? (fl9_d29 j hj)
theorem tb9_st : Cond.laysStatic "java/lang/String" "COMPACT_STRINGS" "Z" ∈ lw_tbl ∧ Cond.initialized "java/lang/String" ∈ lw_tbl ∧ Cond.laysStatic "jdk/internal/util/Preconditions" "SIOOBE_FORMATTER" "Ljava/util/function/BiFunction;" ∈ lw_tbl ∧ Cond.initialized "jdk/internal/util/Preconditions" ∈ lw_tbl ∧ Cond.laysStatic Bundle.tN "UNASSIGNED_STACK" Bundle.steD ∈ lw_tbl ∧ Cond.initialized Bundle.tN ∈ lw_tbl ∧ Cond.laysStatic Bundle.tN "SUPPRESSED_SENTINEL" Bundle.listD ∈ lw_tbl ∧ Cond.arrayOver (.object RX3) ∈ lw_tbl := by decide +kernel
theorem tb9_dg : Cond.laysStatic "java/lang/Integer" "DigitOnes" "[B" ∈ lw_tbl ∧ Cond.laysStatic "java/lang/Integer" "DigitTens" "[B" ∈ lw_tbl ∧ Cond.initialized "java/lang/Integer" ∈ lw_tbl ∧ Cond.castable "[B" "java/lang/Cloneable" ∈ lw_tbl := by decide +kernel
theorem tb9_sr : ∀ i, i < 16 → Cond.stringRef (litO i) (litK i) (litT i) ∈ lw_tbl := by decide +kernel
theorem tb9_nF : ∀ w ∈ nwF, Cond.fieldLinkNest w.1 w.2.1 w.2.2.1 w.2.2.2.1 w.2.2.2.2.1 w.2.2.2.2.2 ∈ lw_tbl := by decide +kernel
theorem tb9_nM : ∀ w ∈ nwM, Cond.methodLinkNest w.1 w.2.1 w.2.2.1 w.2.2.2 ∈ lw_tbl := by decide +kernel
theorem tb9_ca : ∀ a ∈ exL, Cond.castable a a ∈ lw_tbl := by decide +kernel
theorem tb9_de : ∀ d ∈ dcL, Cond.declares d ∈ lw_tbl := by decide +kernel
theorem st_str {s : State} {args : Array Value} (hgv : (Cond.and given_1 narrow_1).before args s = true) : ∀ i : Nat, ∃ q : Nat × Nat, i < 16 → (sT9 i).eval args s none [] s = some (.ref q.1) ∧ (i < 13 → vk_S 1 [(litB i).length] [litB i] (fun _ => q.1) (fun _ => q.2) (fun q => s.heap.size ≤ q) s s.heap) := by
  have hs : ∀ w ∈ fl9, w.before args s = true := flat_of_before _ hgv
  have hA : ∀ a : Nat, a < s.heap.size → ¬ (fun q : Nat => s.heap.size ≤ q) a := fun a h => Nat.not_le.mpr h
  intro i
  by_cases h10 : i < 13
  · have hb : ∀ i, i < 13 → (litB i).length < 2 ^ 31 := by decide +kernel
    have hz : ∀ {j : Nat}, j < 1 → j = 0 := fun h => by omega
    obtain ⟨adK, adV, hS, he⟩ := vk_Sof (args := args) (s := s) (N := 1) (tm := fun _ => sT9 i) (len := [(litB i).length]) (byt := [litB i]) (A := fun q => s.heap.size ≤ q) (fun j hj => by rw [hz hj]; exact hb i h10) (fun j hj => hs _ (fl9_ex i (by omega))) (fun j hj => hs _ (fl9_co i h10)) (fun j hj => hs _ (fl9_ar i h10)) (fun j hj => by rw [hz hj]; exact hs _ (fl9_le i h10)) (fun j hj t ht => by rw [hz hj] at ht ⊢; exact hs _ (fl9_el i h10 t ht)) (fun j k hj hk hn => absurd ((hz hj).trans (hz hk).symm) hn) hA
    refine ⟨(adK 0, adV 0), fun _ => ⟨he 0 (by omega), fun _ => ⟨fun j hj => ?_, fun j k hj hk _ => (hz hj).trans (hz hk).symm⟩⟩⟩
    rw [hz hj]
    exact hS.1 0 (by omega)
  · by_cases h22 : i < 16
    · obtain ⟨a, c, cA, kA, q1, -⟩ := Cond.exactly_spec (args := args) (first := s) (o := none) (s := s) (idx := []) (t := sT9 i) (cls := "java/lang/String") (hs _ (fl9_ex i h22))
      exact ⟨(a, 0), fun _ => ⟨q1, fun h => absurd h h10⟩⟩
    · exact ⟨(0, 0), fun h => absurd h h22⟩
theorem st_ext {s : State} {args : Array Value} {b L : Nat} {xs : Nat → Int32} (hts : ∀ w ∈ lw_tbl, w.before args s = true) (hgv : (Cond.and given_1 narrow_1).before args s = true) (hX : va_X b L xs s s.heap) (hbl : b < s.heap.size) (hL : L ≤ 260) : ∃ x : Xd, x.2.2.1 = b ∧ Ext x (fun q => s.heap.size ≤ q) s s.heap := by
  have hs : ∀ w ∈ fl9, w.before args s = true := flat_of_before _ hgv
  have hA : ∀ a : Nat, a < s.heap.size → ¬ (fun q : Nat => s.heap.size ≤ q) a := fun a h => Nat.not_le.mpr h
  obtain ⟨ad, had⟩ := Classical.axiomOfChoice (st_str hgv)
  obtain ⟨f1, f2, f3, f4⟩ := fl9_st
  obtain ⟨⟨d1, d2⟩, d3, d4⟩ := fl9_da
  obtain ⟨t1, t2, t3, t4, t5, t6, t7, t8⟩ := tb9_st
  obtain ⟨u1, u2, u3, u4⟩ := tb9_dg
  obtain ⟨p1, e1, z1⟩ := va_Tof (args := args) (s := s) (tm := dT9 "DigitOnes") (ty := .byte) (N := 100) (f := fun k => .int (nI (48 + k % 10))) (A := fun q : Nat => s.heap.size ≤ q) (by decide) (hs _ d1) (va_eqt (hs _ d2)) (fun j hj => va_eqt (hs _ (fl9_d1 j hj))) hA
  obtain ⟨p2, e2, z2⟩ := va_Tof (args := args) (s := s) (tm := dT9 "DigitTens") (ty := .byte) (N := 100) (f := fun k => .int (nI (48 + k / 10))) (A := fun q : Nat => s.heap.size ≤ q) (by decide) (hs _ d3) (va_eqt (hs _ d4)) (fun j hj => va_eqt (hs _ (fl9_d2 j hj))) hA
  refine ⟨(fun i => (ad i).1, fun i => (ad i).2, b, L, xs), rfl, fun w hw => va_Nw.of rfl (hts _ (tb9_nF w hw)), fun w hw => va_Nw.of rfl (hts _ (tb9_nM w hw)), fun i hi => vk_R.of (hts _ (tb9_sr i hi)) (had i hi).1, fun i hi => (had i (by omega)).2 hi, va_Zof (hts _ t1) (hts _ t2) (va_eqt (hs _ f1)) hA, va_Zqof (hts _ t3) (hts _ t4) (hs _ f2) hA, vx_Zqof (hts _ t5) (hts _ t6) (hs _ f3) hA, vx_Zqof (hts _ t7) (hts _ t6) (hs _ f4) hA, fun a ha => va_Nw.of rfl (hts _ (tb9_ca a ha)), fun a ha b hb hn => va_Nc.of (hs _ (fl9_nc a ha b hb hn)), fun d hd => va_Nw.of rfl (hts _ (tb9_de d hd)), va_AO.of (hts _ t8), va_Nw.of rfl (hts _ u4), ⟨hX, hA b hbl, hL⟩, ⟨p1, va_Zref (hts _ u1) (hts _ u3) e1 hA, z1⟩, ⟨p2, va_Zref (hts _ u2) (hts _ u3) e2 hA, z2⟩⟩
