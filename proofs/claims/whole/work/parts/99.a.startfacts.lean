/-! ===== what the start gives ===== -/
theorem st_arr {s : State} {args : Array Value} {ty : FieldType} (h : (Cond.arrayClass ty).before args s = true) (hob : ∀ C, ty ≠ .object C) : ∃ cA : ClassId, ArrOfT s cA ty ∧ va_RA s cA ty := by
  obtain ⟨c, k, comp, h1, h2, h3⟩ := Cond.arrayClass_spec h
  refine ⟨c, fun n z => ⟨(fun k h => by cases h), k, h2, comp, h3⟩, ?_⟩
  cases ty <;> first | exact h1 | exact absurd rfl (hob _)
theorem st_arrO {s : State} {args : Array Value} {C : String} (h : (Cond.arrayOver (.object C)).before args s = true) : ∃ cA : ClassId, ArrOfT s cA (.object C) ∧ va_RA s cA (.object C) := by
  obtain ⟨comp, c, k, h1, h2, h3, h4, h5⟩ := Cond.arrayOver_spec h
  exact ⟨c, fun n z => ⟨(fun k h => by cases h), k, h3, comp, h4⟩, k, comp, h3, h4, h1, h5⟩
theorem ac_3 : Cond.arrayClass .double ∈ wG := wG_t 1531 (by decide +kernel) (by decide +kernel)
theorem st_K {s : State} {args : Array Value} (hts : ∀ w ∈ lw_tbl, w.before args s = true) : ∃ (D : va_G) (g : Nat → ClassId), va_K D vwCl (tyA g) s := by
  have hG : ∀ w ∈ wG, w.before args s = true := fun w h => hts w (List.mem_filter.mp h).1
  obtain ⟨c0, i0, k0⟩ := u_known (C := RX0) (T := TX0) (N := 7) (n := 7) hG cw_X0 (hts (.instantiable RX0 7) (by decide +kernel))
  obtain ⟨c1, i1, k1⟩ := u_known (C := RX1) (T := TX1) (N := 2) (n := 2) hG cw_X1 (hts (.instantiable RX1 2) (by decide +kernel))
  obtain ⟨c2, i2, k2⟩ := u_known (C := RX2) (T := TX2) (N := 2) (n := 2) hG cw_X2 (hts (.instantiable RX2 2) (by decide +kernel))
  obtain ⟨c3, i3, k3⟩ := u_known (C := RX3) (T := TX3) (N := 6) (n := 6) hG cw_X3 (hts (.instantiable RX3 6) (by decide +kernel))
  obtain ⟨c4, i4, k4⟩ := u_known (C := RX4) (T := TX4) (N := 2) (n := 2) hG cw_X4 (hts (.instantiable RX4 2) (by decide +kernel))
  obtain ⟨c5, i5, k5⟩ := u_known (C := RX5) (T := TX5) (N := 8) (n := 8) hG cw_X5 (hts (.instantiable RX5 8) (by decide +kernel))
  obtain ⟨c6, i6, k6⟩ := u_known (C := RX6) (T := TX6) (N := 7) (n := 7) hG cw_X6 (hts (.instantiable RX6 7) (by decide +kernel))
  obtain ⟨c7, i7, k7⟩ := u_known (C := RX7) (T := TX7) (N := 25) (n := 25) hG cw_X7 (hts (.instantiable RX7 25) (by decide +kernel))
  obtain ⟨g0, a0⟩ := st_arr (hG _ ac_0) (fun C h => by cases h)
  obtain ⟨g1, a1⟩ := st_arr (hG _ ac_1) (fun C h => by cases h)
  obtain ⟨g2, a2⟩ := st_arr (hG _ ac_2) (fun C h => by cases h)
  obtain ⟨g3, a3⟩ := st_arr (hG _ ac_3) (fun C h => by cases h)
  obtain ⟨g4, a4⟩ := st_arrO (C := RX3) (hts _ (by decide +kernel))
  refine ⟨(fun k => match k with | 0 => c0 | 1 => c1 | 2 => c2 | 3 => c3 | 4 => c4 | 5 => c5 | 6 => c6 | _ => c7, fun k => match k with | 0 => i0 | 1 => i1 | 2 => i2 | 3 => i3 | 4 => i4 | 5 => i5 | 6 => i6 | _ => i7), fun k => match k with | 0 => g0 | 1 => g1 | 2 => g2 | 3 => g3 | _ => g4, ?_, ?_⟩
  · intro k q hq
    match k, hq with
    | 0, hq => cases hq; exact k0
    | 1, hq => cases hq; exact k1
    | 2, hq => cases hq; exact k2
    | 3, hq => cases hq; exact k3
    | 4, hq => cases hq; exact k4
    | 5, hq => cases hq; exact k5
    | 6, hq => cases hq; exact k6
    | 7, hq => cases hq; exact k7
    | k + 8, hq => cases hq
  · intro k q hq
    match k, hq with
    | 0, hq => cases hq; exact a0
    | 1, hq => cases hq; exact a1
    | 2, hq => cases hq; exact a2
    | 3, hq => cases hq; exact a3
    | 4, hq => cases hq; exact a4
    | k + 5, hq => cases hq
def fl9 : List Cond := flatC (Cond.and given_1 narrow_1)
def sT9 (i : Nat) : Term := .string (litO i) (litK i)
def sV9 (i : Nat) : Term := .field (sT9 i) "java/lang/String" "value" "[B"
theorem fl9_ex : ∀ i, i < 22 → Cond.exactly (sT9 i) "java/lang/String" ∈ fl9 := by decide +kernel
theorem fl9_co : ∀ i, i < 10 → Cond.eq (.field (sT9 i) "java/lang/String" "coder" "B") (.int 0) ∈ fl9 := by decide +kernel
theorem fl9_ar : ∀ i, i < 10 → Cond.arrayOf (sV9 i) .byte ∈ fl9 := by decide +kernel
theorem fl9_le : ∀ i, i < 10 → Cond.eq (.length (sV9 i)) (.int (Int32.ofNat (litB i).length)) ∈ fl9 := by decide +kernel
theorem fl9_el : ∀ i, i < 10 → ∀ j, j < (litB i).length → Cond.eq (.elem (sV9 i) (.int (Int32.ofNat j))) (.int ((litB i).getD j 0)) ∈ fl9 := by decide +kernel
theorem fl9_nc : ∀ a ∈ exL, ∀ b ∈ exL, a ≠ b → Cond.not (.castable a b) ∈ fl9 := by decide +kernel
theorem fl9_st : Cond.eq (.static "java/lang/String" "COMPACT_STRINGS" "Z") (.int 1) ∈ fl9 ∧ Cond.isRef (.static "jdk/internal/util/Preconditions" "SIOOBE_FORMATTER" "Ljava/util/function/BiFunction;") ∈ fl9 ∧ Cond.isRef (.static Bundle.tN "UNASSIGNED_STACK" Bundle.steD) ∈ fl9 ∧ Cond.isRef (.static Bundle.tN "SUPPRESSED_SENTINEL" Bundle.listD) ∈ fl9 := by decide +kernel
theorem tb9_st : Cond.laysStatic "java/lang/String" "COMPACT_STRINGS" "Z" ∈ lw_tbl ∧ Cond.initialized "java/lang/String" ∈ lw_tbl ∧ Cond.laysStatic "jdk/internal/util/Preconditions" "SIOOBE_FORMATTER" "Ljava/util/function/BiFunction;" ∈ lw_tbl ∧ Cond.initialized "jdk/internal/util/Preconditions" ∈ lw_tbl ∧ Cond.laysStatic Bundle.tN "UNASSIGNED_STACK" Bundle.steD ∈ lw_tbl ∧ Cond.initialized Bundle.tN ∈ lw_tbl ∧ Cond.laysStatic Bundle.tN "SUPPRESSED_SENTINEL" Bundle.listD ∈ lw_tbl ∧ Cond.arrayOver (.object RX3) ∈ lw_tbl := by decide +kernel
theorem tb9_sr : ∀ i, i < 22 → Cond.stringRef (litO i) (litK i) (litT i) ∈ lw_tbl := by decide +kernel
theorem tb9_nF : ∀ w ∈ nwF, Cond.fieldLinkNest w.1 w.2.1 w.2.2.1 w.2.2.2.1 w.2.2.2.2.1 w.2.2.2.2.2 ∈ lw_tbl := by decide +kernel
theorem tb9_nM : ∀ w ∈ nwM, Cond.methodLinkNest w.1 w.2.1 w.2.2.1 w.2.2.2 ∈ lw_tbl := by decide +kernel
theorem tb9_ca : ∀ a ∈ exL, Cond.castable a a ∈ lw_tbl := by decide +kernel
theorem tb9_de : ∀ d ∈ dcL, Cond.declares d ∈ lw_tbl := by decide +kernel
theorem st_str {s : State} {args : Array Value} (hgv : (Cond.and given_1 narrow_1).before args s = true) : ∀ i : Nat, ∃ q : Nat × Nat, i < 22 → (sT9 i).eval args s none [] s = some (.ref q.1) ∧ (i < 10 → vk_S 1 [(litB i).length] [litB i] (fun _ => q.1) (fun _ => q.2) (fun q => s.heap.size ≤ q) s s.heap) := by
  have hs : ∀ w ∈ fl9, w.before args s = true := flat_of_before _ hgv
  have hA : ∀ a : Nat, a < s.heap.size → ¬ (fun q : Nat => s.heap.size ≤ q) a := fun a h => Nat.not_le.mpr h
  intro i
  by_cases h10 : i < 10
  · have hb : ∀ i, i < 10 → (litB i).length < 2 ^ 31 := by decide +kernel
    have hz : ∀ {j : Nat}, j < 1 → j = 0 := fun h => by omega
    obtain ⟨adK, adV, hS, he⟩ := vk_Sof (args := args) (s := s) (N := 1) (tm := fun _ => sT9 i) (len := [(litB i).length]) (byt := [litB i]) (A := fun q => s.heap.size ≤ q) (fun j hj => by rw [hz hj]; exact hb i h10) (fun j hj => hs _ (fl9_ex i (by omega))) (fun j hj => hs _ (fl9_co i h10)) (fun j hj => hs _ (fl9_ar i h10)) (fun j hj => by rw [hz hj]; exact hs _ (fl9_le i h10)) (fun j hj t ht => by rw [hz hj] at ht ⊢; exact hs _ (fl9_el i h10 t ht)) (fun j k hj hk hn => absurd ((hz hj).trans (hz hk).symm) hn) hA
    refine ⟨(adK 0, adV 0), fun _ => ⟨he 0 (by omega), fun _ => ⟨fun j hj => ?_, fun j k hj hk _ => (hz hj).trans (hz hk).symm⟩⟩⟩
    rw [hz hj]
    exact hS.1 0 (by omega)
  · by_cases h22 : i < 22
    · obtain ⟨a, c, cA, kA, q1, -⟩ := Cond.exactly_spec (args := args) (first := s) (o := none) (s := s) (idx := []) (t := sT9 i) (cls := "java/lang/String") (hs _ (fl9_ex i h22))
      exact ⟨(a, 0), fun _ => ⟨q1, fun h => absurd h h10⟩⟩
    · exact ⟨(0, 0), fun h => absurd h h22⟩
theorem st_ext {s : State} {args : Array Value} (hts : ∀ w ∈ lw_tbl, w.before args s = true) (hgv : (Cond.and given_1 narrow_1).before args s = true) : ∃ x : Xd, Ext x (fun q => s.heap.size ≤ q) s s.heap := by
  have hs : ∀ w ∈ fl9, w.before args s = true := flat_of_before _ hgv
  have hA : ∀ a : Nat, a < s.heap.size → ¬ (fun q : Nat => s.heap.size ≤ q) a := fun a h => Nat.not_le.mpr h
  obtain ⟨ad, had⟩ := Classical.axiomOfChoice (st_str hgv)
  obtain ⟨f1, f2, f3, f4⟩ := fl9_st
  obtain ⟨t1, t2, t3, t4, t5, t6, t7, t8⟩ := tb9_st
  refine ⟨(fun i => (ad i).1, fun i => (ad i).2), fun w hw => va_Nw.of rfl (hts _ (tb9_nF w hw)), fun w hw => va_Nw.of rfl (hts _ (tb9_nM w hw)), fun i hi => vk_R.of (hts _ (tb9_sr i hi)) (had i hi).1, fun i hi => (had i (by omega)).2 hi, va_Zof (hts _ t1) (hts _ t2) (va_eqt (hs _ f1)) hA, va_Zqof (hts _ t3) (hts _ t4) (hs _ f2) hA, vx_Zqof (hts _ t5) (hts _ t6) (hs _ f3) hA, vx_Zqof (hts _ t7) (hts _ t6) (hs _ f4) hA, fun a ha => va_Nw.of rfl (hts _ (tb9_ca a ha)), fun a ha b hb hn => va_Nc.of (hs _ (fl9_nc a ha b hb hn)), fun d hd => va_Nw.of rfl (hts _ (tb9_de d hd)), va_AO.of (hts _ t8)⟩
