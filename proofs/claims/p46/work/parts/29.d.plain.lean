/-! Calls on the object inside the law; isPlain (by program). -/
theorem mrg_all : ∀ (X X1 : va_W), X1.map (fun q => q.1) = X.map (fun q => q.1) → mrgB (List.replicate X.length true) X X X1 X1 := by
  intro X
  induction X with
  | nil =>
    intro X1 h
    cases X1 with
    | cons => simp at h
    | nil => exact trivial
  | cons q X ih =>
    intro X1 h
    cases X1 with
    | nil => simp at h
    | cons q1 X1 =>
      simp only [List.map_cons, List.cons.injEq] at h
      exact ⟨rfl, rfl, h.1, ih X1 h.2⟩
theorem at_len (g : Nat → ClassId) (LW : va_W) (a : Nat → Nat) (e9 : Nat → Nat → Nat) (σ : S6) : ∃ fs, (LW ++ w6 g a e9 σ)[LW.length]? = some (a 0, .inr (6, fs)) := ⟨_, by rw [List.getElem?_append_right (Nat.le_refl _), Nat.sub_self]; rfl⟩
theorem adr_app (g : Nat → ClassId) (LW : va_W) (a : Nat → Nat) (e9 : Nat → Nat → Nat) (σ σ' : S6) : (LW ++ w6 g a e9 σ').map (fun q => q.1) = (LW ++ w6 g a e9 σ).map (fun q => q.1) := by
  rw [List.map_append, List.map_append, w6_adr g a e9 σ σ']
section LAWB
variable {p : Program} {l : Launch} {e : Env} {R : Room} {s : State} {m : MethodId} {args : Array Value} {below : List Frame} {meth : Method} {c : Code} {H : Heap} {locs : List Loc} {cells slots : Nat} {Q : State → Prop}
variable {D : va_G} {g : Nat → ClassId} {x : Xd} {A : Nat → Prop} {cc : ByteArray} {nL : Nat} {ret0 : Option FieldType} {pc : Nat} {ls : Array Slot} {rest : List Value}
theorem c6 (X : Cx p s m args meth c RL cc nL ret0 D g x A) (LW : va_W) {a : Nat → Nat} {e9 : Nat → Nat → Nat} {σ σ' : S6} {y : MethodName} {cy : ByteArray} {nLy fry loy n idx : Nat} {rety : Option FieldType} {As st0 st1 : List Value} {r : Option Value}
    (hC : Cn D g x l y cy nLy rety fry loy (.ref (a 0) :: As) (w6 g a e9 σ) (w6 g a e9 σ') r) (hM : MwV y cy nLy rety n) (hlink : Cond.methodLink RL idx y ∈ wG) (hy : y.cls = RX6) (hR : fry + 1 ≤ R.frames ∧ 8 + (nLy + 11) + loy ≤ R.locals)
    (hP : va_P D vwCl (LW ++ w6 g a e9 σ) H) (hD : va_D A (LW ++ w6 g a e9 σ)) (hS : va_S A s.heap H locs) (hn : As.length = n) (hls : ls.size = nL) (hst : st0 = As.reverse ++ .ref (a 0) :: rest) (hrm : (rest.map fun v => v.category).sum ≤ 8) (hdg : decode cc pc = .ok (.invokevirtual idx, 3)) (hcs : cells ≤ R.cells ∧ slots ≤ R.slots) (hst1 : r.toList ++ rest = st1)
    (kk : ∀ (H1 : Heap) (locs1 : List Loc), va_P D vwCl (LW ++ w6 g a e9 σ') H1 → va_D A (LW ++ w6 g a e9 σ') → va_S A s.heap H1 locs1 → W p l e R s m args below meth c H1 locs1 cells slots Q (F0 m (pc + 3) ls st1)) : W p l e R s m args below meth c H locs cells slots Q (F0 m pc ls st0) := by
  obtain ⟨fs, hq0⟩ := at_len g LW a e9 σ
  have hci : vwCl[6]? = some (y.cls, TX6, 7) := by rw [hy]; rfl
  exact mcallA X (hC.ext _ (mrg_left LW (mrg_all _ _ (w6_adr g a e9 σ σ')))) hM hlink hR hP hD hS (adr_app g LW a e9 σ σ') LW.length hq0 hci hn hls hst hrm hdg hcs hst1 kk
end LAWB
set_option maxHeartbeats 4000000 in
set_option maxRecDepth 100000 in
theorem kP_isPlain (D : va_G) (g : Nat → ClassId) (x : Xd) (l : Launch) (o ch xa ya wa : Nat) (at9 n : Int32) (xs ys ws : Nat → Int32) (a : Nat → Nat) (e9 : Nat → Nat → Nat) (I : S6 → Prop) (h1 : ∀ σ, I σ → ∃ σ', s6_missed σ = some (0, σ') ∧ I σ') (h2 : ∀ σ, I σ → ∃ σ', s6_many σ 0 = some (25, σ') ∧ I σ') (h3 : ∀ σ, I σ → ∃ σ', s6_hiddenPoles σ = some (0, σ') ∧ I σ') (h4 : ∀ σ, I σ → ∃ σ', s6_degreeOf σ 1 = some (0, σ') ∧ I σ') (h5 : ∀ σ, I σ → ∃ r σ', s6_degreeOf σ 0 = some (r, σ') ∧ ¬ n ≤ r ∧ I σ') (h6 : ∀ σ, I σ → ∃ r σ', s6_isAlternating σ = some (r, σ') ∧ r ≠ 0 ∧ I σ')
    (h7 : ∀ (j : Int) (k : Int32), -12 ≤ j → j ≤ 12 → k = 0 ∨ k = 1 → ∃ v, (∀ σ, I σ → ∃ σ', s6_value σ (z3 j) k = some (0, v, σ') ∧ I σ') ∧ (∀ σ, I σ → ∃ σ', s6_plainValue σ (z3 j) k = some (0, v, σ') ∧ I σ')) (h8 : ∀ (j : Int) σ, -12 ≤ j → j ≤ 12 → I σ → ∃ r σ', sL_isByNewton n xs σ (z3 j) = some (r, σ') ∧ r ≠ 0 ∧ I σ') (σ : S6) (hI : I σ) : CnG D g x l yL_isPlain cL_isPlain 3 (some .boolean) 9 400 0 0 [.ref o, .ref (a 0)] (lW g o ch xa ya wa at9 n xs ys ws ++ w6 g a e9 σ) (fun z w => z = some (.int 1) ∧ ∃ σ', I σ' ∧ w = lW g o ch xa ya wa at9 n xs ys ws ++ w6 g a e9 σ') := by
  refine CnG.i (by decide +kernel) (Nat.le_of_ble_eq_true rfl) (fun p e s m args below meth c9 A Q ls X hnm hD hP hS fin hl => ?_)
  obtain ⟨hx, hb, hml, -, -, hown, hts, hK, hA, hE⟩ := id X
  have hl : lv_has ls 3 [(0, .ref o), (1, .ref (a 0))] := hl
  have LOOP : ∀ (k : Nat) (j : Int) (σ : S6) (H : Heap) (locs : List Loc) (ls : Array Slot), j + k = 13 → -12 ≤ j → I σ → va_P D vwCl (lW g o ch xa ya wa at9 n xs ys ws ++ w6 g a e9 σ) H → va_D A (lW g o ch xa ya wa at9 n xs ys ws ++ w6 g a e9 σ) → va_S A s.heap H locs → lv_has ls 3 [(2, .int (z3 j)), (0, .ref o), (1, .ref (a 0))] → W p l e (rmC 9 400 0 0) s m args below meth c9 H locs 0 0 Q (F0 m 56 ls []) := by
    intro k
    induction k with
    | zero =>
      intro j σ H locs ls hk hj hI hP hD hS hl
      refine lv_iload_n hx hb dL_isPlain_56 rfl (lv_at hl 0 rfl) ?_
      refine lv_bipush (v := 12) hx hb dL_isPlain_57 (by decide) ?_
      refine lv_icmp_gt (tgt := 111) hx hb dL_isPlain_59 (by decide) (fun _ => ?_) (fun b => absurd ((z3lt (a := 12) (by omega) (by omega) (by omega) (by omega)).2 (show 12 < j by omega)) b)
      refine lv_iconst (v := 1) hx hb dL_isPlain_111 (by decide) ?_
      exact fin (some (.int 1)) _ _ _ _ _ ⟨rfl, σ, hI, rfl⟩ (fun z h => by cases h; exact ⟨1, rfl, nar_z (Or.inr rfl)⟩) (by constructor <;> (intro h; cases h)) hP hD hS dL_isPlain_112
    | succ k ih =>
      intro j σ H locs ls hk hj hI hP hD hS hl
      refine lv_iload_n hx hb dL_isPlain_56 rfl (lv_at hl 0 rfl) ?_
      refine lv_bipush (v := 12) hx hb dL_isPlain_57 (by decide) ?_
      refine lv_icmp_gt (tgt := 111) hx hb dL_isPlain_59 (by decide) (fun b => absurd ((z3lt (a := 12) (by omega) (by omega) (by omega) (by omega)).1 b) (show ¬ 12 < j by omega)) (fun _ => ?_)
      obtain ⟨va, fa, ga⟩ := h7 j 0 (by omega) (by omega) (Or.inl rfl)
      refine lv_aload_n hx hb dL_isPlain_62 rfl (lv_at hl 2 rfl) ?_
      refine lv_iload_n hx hb dL_isPlain_63 rfl (lv_at hl 0 rfl) ?_
      refine lv_iconst (v := 0) hx hb dL_isPlain_64 (by decide) ?_
      obtain ⟨σ1, eσ1, iσ1⟩ := fa σ hI
      refine c6 X (lW g o ch xa ya wa at9 n xs ys ws) (As := [.int (z3 j), .int 0]) (rest := []) (st1 := [.long va]) (N6_value D g x l a e9 σ ((z3 j)) (0) _ eσ1 rfl) mw_X6_value ml_L_171 rfl ⟨(Nat.le_of_ble_eq_true rfl), (Nat.le_of_ble_eq_true rfl)⟩ hP hD hS rfl hl.1 rfl (Nat.le_of_ble_eq_true rfl) dL_isPlain_65 ⟨Nat.le_refl _, Nat.le_refl _⟩ rfl (fun H locs hP hD hS => ?_)
      refine lv_aload_n hx hb dL_isPlain_68 rfl (lv_at hl 2 rfl) ?_
      refine lv_iload_n hx hb dL_isPlain_69 rfl (lv_at hl 0 rfl) ?_
      refine lv_iconst (v := 0) hx hb dL_isPlain_70 (by decide) ?_
      obtain ⟨σ2, eσ2, iσ2⟩ := ga σ1 iσ1
      refine c6 X (lW g o ch xa ya wa at9 n xs ys ws) (As := [.int (z3 j), .int 0]) (rest := [.long va]) (st1 := [.long va, .long va]) (N6_plainValue D g x l a e9 σ1 ((z3 j)) (0) _ eσ2 rfl) mw_X6_plainValue ml_L_175 rfl ⟨(Nat.le_of_ble_eq_true rfl), (Nat.le_of_ble_eq_true rfl)⟩ hP hD hS rfl hl.1 rfl (Nat.le_of_ble_eq_true rfl) dL_isPlain_71 ⟨Nat.le_refl _, Nat.le_refl _⟩ rfl (fun H locs hP hD hS => ?_)
      refine W.lcmp hx hb dL_isPlain_74 ?_
      refine lv_if_ne (tgt := 103) hx hb dL_isPlain_75 (by decide) (fun b => absurd rfl (mt (lg_cmp_eq _ _).mpr b)) (fun _ => ?_)
      obtain ⟨vb, fb, gb⟩ := h7 j 1 (by omega) (by omega) (Or.inr rfl)
      refine lv_aload_n hx hb dL_isPlain_78 rfl (lv_at hl 2 rfl) ?_
      refine lv_iload_n hx hb dL_isPlain_79 rfl (lv_at hl 0 rfl) ?_
      refine lv_iconst (v := 1) hx hb dL_isPlain_80 (by decide) ?_
      obtain ⟨σ3, eσ3, iσ3⟩ := fb σ2 iσ2
      refine c6 X (lW g o ch xa ya wa at9 n xs ys ws) (As := [.int (z3 j), .int 1]) (rest := []) (st1 := [.long vb]) (N6_value D g x l a e9 σ2 ((z3 j)) (1) _ eσ3 rfl) mw_X6_value ml_L_171 rfl ⟨(Nat.le_of_ble_eq_true rfl), (Nat.le_of_ble_eq_true rfl)⟩ hP hD hS rfl hl.1 rfl (Nat.le_of_ble_eq_true rfl) dL_isPlain_81 ⟨Nat.le_refl _, Nat.le_refl _⟩ rfl (fun H locs hP hD hS => ?_)
      refine lv_aload_n hx hb dL_isPlain_84 rfl (lv_at hl 2 rfl) ?_
      refine lv_iload_n hx hb dL_isPlain_85 rfl (lv_at hl 0 rfl) ?_
      refine lv_iconst (v := 1) hx hb dL_isPlain_86 (by decide) ?_
      obtain ⟨σ4, eσ4, iσ4⟩ := gb σ3 iσ3
      refine c6 X (lW g o ch xa ya wa at9 n xs ys ws) (As := [.int (z3 j), .int 1]) (rest := [.long vb]) (st1 := [.long vb, .long vb]) (N6_plainValue D g x l a e9 σ3 ((z3 j)) (1) _ eσ4 rfl) mw_X6_plainValue ml_L_175 rfl ⟨(Nat.le_of_ble_eq_true rfl), (Nat.le_of_ble_eq_true rfl)⟩ hP hD hS rfl hl.1 rfl (Nat.le_of_ble_eq_true rfl) dL_isPlain_87 ⟨Nat.le_refl _, Nat.le_refl _⟩ rfl (fun H locs hP hD hS => ?_)
      refine W.lcmp hx hb dL_isPlain_90 ?_
      refine lv_if_ne (tgt := 103) hx hb dL_isPlain_91 (by decide) (fun b => absurd rfl (mt (lg_cmp_eq _ _).mpr b)) (fun _ => ?_)
      refine lv_aload_n hx hb dL_isPlain_94 rfl (lv_at hl 1 rfl) ?_
      refine lv_aload_n hx hb dL_isPlain_95 rfl (lv_at hl 2 rfl) ?_
      refine lv_iload_n hx hb dL_isPlain_96 rfl (lv_at hl 0 rfl) ?_
      obtain ⟨r5, σ5, e5, n5, i5⟩ := h8 j σ4 (by omega) (by omega) iσ4
      refine mcallA X (As := [.ref (a 0), .int (z3 j)]) (rest := []) (st1 := [.int r5]) (KL_isByNewton D g x l o ch xa ya wa at9 n xs ys ws a e9 σ4 (z3 j) _ e5) mw_L_isByNewton ml_L_178 ⟨(Nat.le_of_ble_eq_true rfl), (Nat.le_of_ble_eq_true rfl)⟩ hP hD hS (adr_app g _ a e9 σ4 σ5) 0 rfl rfl rfl hl.1 rfl (Nat.le_of_ble_eq_true rfl) dL_isPlain_97 ⟨Nat.le_refl _, Nat.le_refl _⟩ rfl (fun H locs hP hD hS => ?_)
      refine lv_if_ne (tgt := 105) hx hb dL_isPlain_100 (by decide) (fun _ => ?_) (fun b => absurd b n5)
      refine lv_iinc (v := z3 (j + 1)) (lv' := [(2, .int (z3 (j + 1))), (0, .ref o), (1, .ref (a 0))]) hx hb dL_isPlain_105 hl (k := 0) rfl (show z3 j + 1 = z3 (j + 1) by rw [l3_1, z3a]) (by decide) rfl (fun ls hl => ?_)
      refine lv_goto (tgt := 56) hx hb dL_isPlain_108 (by decide) ?_
      exact ih (j + 1) σ5 H locs ls (by omega) (by omega) i5 hP hD hS hl
  refine lv_aload_n hx hb dL_isPlain_0 rfl (lv_at hl 1 rfl) ?_
  obtain ⟨σ1, eσ1, iσ1⟩ := h1 σ hI
  refine c6 X (lW g o ch xa ya wa at9 n xs ys ws) (As := []) (rest := []) (st1 := [.int 0]) (K6_missed D g x l a e9 σ  _ eσ1) mw_X6_missed ml_L_159 rfl ⟨(Nat.le_of_ble_eq_true rfl), (Nat.le_of_ble_eq_true rfl)⟩ hP hD hS rfl hl.1 rfl (Nat.le_of_ble_eq_true rfl) dL_isPlain_1 ⟨Nat.le_refl _, Nat.le_refl _⟩ rfl (fun H locs hP hD hS => ?_)
  refine lv_if_ne (tgt := 51) hx hb dL_isPlain_4 (by decide) (fun b => absurd rfl b) (fun _ => ?_)
  refine lv_aload_n hx hb dL_isPlain_7 rfl (lv_at hl 1 rfl) ?_
  refine lv_iconst (v := 0) hx hb dL_isPlain_8 (by decide) ?_
  obtain ⟨σ2, eσ2, iσ2⟩ := h2 σ1 iσ1
  refine c6 X (lW g o ch xa ya wa at9 n xs ys ws) (As := [.int 0]) (rest := []) (st1 := [.int 25]) (K6_many D g x l a e9 σ1 (0) _ eσ2) mw_X6_many ml_L_116 rfl ⟨(Nat.le_of_ble_eq_true rfl), (Nat.le_of_ble_eq_true rfl)⟩ hP hD hS rfl hl.1 rfl (Nat.le_of_ble_eq_true rfl) dL_isPlain_9 ⟨Nat.le_refl _, Nat.le_refl _⟩ rfl (fun H locs hP hD hS => ?_)
  refine lv_bipush (v := 25) hx hb dL_isPlain_12 (by decide) ?_
  refine lv_icmp_ne (tgt := 51) hx hb dL_isPlain_14 (by decide) (fun b => absurd rfl b) (fun _ => ?_)
  refine lv_aload_n hx hb dL_isPlain_17 rfl (lv_at hl 1 rfl) ?_
  obtain ⟨σ3, eσ3, iσ3⟩ := h3 σ2 iσ2
  refine c6 X (lW g o ch xa ya wa at9 n xs ys ws) (As := []) (rest := []) (st1 := [.int 0]) (K6_hiddenPoles D g x l a e9 σ2  _ eσ3) mw_X6_hiddenPoles ml_L_162 rfl ⟨(Nat.le_of_ble_eq_true rfl), (Nat.le_of_ble_eq_true rfl)⟩ hP hD hS rfl hl.1 rfl (Nat.le_of_ble_eq_true rfl) dL_isPlain_18 ⟨Nat.le_refl _, Nat.le_refl _⟩ rfl (fun H locs hP hD hS => ?_)
  refine lv_if_ne (tgt := 51) hx hb dL_isPlain_21 (by decide) (fun b => absurd rfl b) (fun _ => ?_)
  refine lv_aload_n hx hb dL_isPlain_24 rfl (lv_at hl 1 rfl) ?_
  refine lv_iconst (v := 1) hx hb dL_isPlain_25 (by decide) ?_
  obtain ⟨σ4, eσ4, iσ4⟩ := h4 σ3 iσ3
  refine c6 X (lW g o ch xa ya wa at9 n xs ys ws) (As := [.int 1]) (rest := []) (st1 := [.int 0]) (K6_degreeOf D g x l a e9 σ3 (1) _ eσ4) mw_X6_degreeOf ml_L_165 rfl ⟨(Nat.le_of_ble_eq_true rfl), (Nat.le_of_ble_eq_true rfl)⟩ hP hD hS rfl hl.1 rfl (Nat.le_of_ble_eq_true rfl) dL_isPlain_26 ⟨Nat.le_refl _, Nat.le_refl _⟩ rfl (fun H locs hP hD hS => ?_)
  refine lv_if_ne (tgt := 51) hx hb dL_isPlain_29 (by decide) (fun b => absurd rfl b) (fun _ => ?_)
  refine lv_aload_n hx hb dL_isPlain_32 rfl (lv_at hl 1 rfl) ?_
  refine lv_iconst (v := 0) hx hb dL_isPlain_33 (by decide) ?_
  obtain ⟨r5, σ5, eσ5, nσ5, iσ5⟩ := h5 σ4 iσ4
  refine c6 X (lW g o ch xa ya wa at9 n xs ys ws) (As := [.int 0]) (rest := []) (st1 := [.int r5]) (K6_degreeOf D g x l a e9 σ4 (0) _ eσ5) mw_X6_degreeOf ml_L_165 rfl ⟨(Nat.le_of_ble_eq_true rfl), (Nat.le_of_ble_eq_true rfl)⟩ hP hD hS rfl hl.1 rfl (Nat.le_of_ble_eq_true rfl) dL_isPlain_34 ⟨Nat.le_refl _, Nat.le_refl _⟩ rfl (fun H locs hP hD hS => ?_)
  refine lv_aload_n hx hb dL_isPlain_37 rfl (lv_at hl 0 rfl) ?_
  refine mget X fl_L_64 hP 0 rfl rfl dL_isPlain_38 ?_
  refine lv_icmp_ge (tgt := 51) hx hb dL_isPlain_41 (by decide) (fun b => absurd b nσ5) (fun _ => ?_)
  refine lv_aload_n hx hb dL_isPlain_44 rfl (lv_at hl 1 rfl) ?_
  obtain ⟨r6, σ6, eσ6, nσ6, iσ6⟩ := h6 σ5 iσ5
  refine c6 X (lW g o ch xa ya wa at9 n xs ys ws) (As := []) (rest := []) (st1 := [.int r6]) (K6_isAlternating D g x l a e9 σ5  _ eσ6) mw_X6_isAlternating ml_L_168 rfl ⟨(Nat.le_of_ble_eq_true rfl), (Nat.le_of_ble_eq_true rfl)⟩ hP hD hS rfl hl.1 rfl (Nat.le_of_ble_eq_true rfl) dL_isPlain_45 ⟨Nat.le_refl _, Nat.le_refl _⟩ rfl (fun H locs hP hD hS => ?_)
  refine lv_if_ne (tgt := 53) hx hb dL_isPlain_48 (by decide) (fun _ => ?_) (fun b => absurd b nσ6)
  refine lv_bipush (v := z3 (-12)) hx hb dL_isPlain_53 (by decide +kernel) ?_
  refine lv_istore_n (lv' := [(2, .int (z3 (-12))), (0, .ref o), (1, .ref (a 0))]) hx hb dL_isPlain_55 rfl hl (by decide) rfl (fun ls hl => ?_)
  exact LOOP 25 (-12) σ6 H locs ls (by omega) (by omega) iσ6 hP hD hS hl
theorem cl_L_207 : Cond.classLink RL 207 (exN 1) ∈ wG := wG_t 973 (by decide +kernel) (by decide +kernel)
theorem mh_isNoPoint : MwH yL_isNoPoint cL_isNoPoint 2 [(0, 17, 18, 207)] 1 := ⟨wG_t 971 (by decide +kernel) (by decide +kernel), wG_t 0 (by decide +kernel) (by decide +kernel), wG_t 972 (by decide +kernel) (by decide +kernel), ⟨by decide, by decide, by decide +kernel⟩⟩
theorem cl_L_209 : Cond.classLink RL 209 (exN 2) ∈ wG := wG_t 978 (by decide +kernel) (by decide +kernel)
theorem mh_isBad : MwH yL_isBad cL_isBad 2 [(0, 16, 17, 209)] 1 := ⟨wG_t 976 (by decide +kernel) (by decide +kernel), wG_t 0 (by decide +kernel) (by decide +kernel), wG_t 977 (by decide +kernel) (by decide +kernel), ⟨by decide, by decide, by decide +kernel⟩⟩
theorem cl_L_211 : Cond.classLink RL 211 (exN 4) ∈ wG := wG_t 982 (by decide +kernel) (by decide +kernel)
theorem mh_isNone : MwH yL_isNone cL_isNone 2 [(20, 38, 39, 211)] 0 := ⟨wG_t 980 (by decide +kernel) (by decide +kernel), wG_t 0 (by decide +kernel) (by decide +kernel), wG_t 981 (by decide +kernel) (by decide +kernel), ⟨by decide, by decide, by decide +kernel⟩⟩
set_option maxHeartbeats 4000000 in
set_option maxRecDepth 100000 in
theorem H_isNoPoint (D : va_G) (g : Nat → ClassId) (x : Xd) (l : Launch) (hl0 : l.stackTraces = false) (a : Nat → Nat) (e9 : Nat → Nat → Nat) (σ σ' : S6) (v : Int64) (h : s6_weight σ 5 = some (1, v, σ')) : CnM D g x l yL_isNoPoint cL_isNoPoint 2 [(0, 17, 18, 207)] 10 200 1 [.ref (a 0)] (w6 g a e9 σ) (w6 g a e9 σ') (some (.int 1)) := by
  refine CnM.mk (nar_z (Or.inr rfl)) (by decide +kernel) (Nat.le_of_ble_eq_true rfl) (fun p e s m args below meth c A Q ls X htab hD hP hS fin hl => ?_)
  obtain ⟨hx, hb, hml, -, -, hown, hts, hK, hA, hE⟩ := id X
  have hl : lv_has ls 2 [(0, .ref (a 0))] := hl
  refine lv_aload_n hx hb dL_isNoPoint_0 rfl (lv_at hl 0 rfl) ?_
  refine lv_iconst (v := 5) hx hb dL_isNoPoint_1 (by decide) ?_
  refine xcallA X (As := [.int 5]) (rest := []) (st1 := [.long v]) (K6_weight D g x l hl0 a e9 σ 5 _ h) mw_X6_weight ml_L_190 ⟨(Nat.le_of_ble_eq_true rfl), (Nat.le_of_ble_eq_true rfl)⟩ hP hD hS (w6_adr g a e9 σ σ') 0 rfl rfl rfl hl.1 rfl (Nat.le_of_ble_eq_true rfl) dL_isNoPoint_2 ⟨(Nat.le_of_ble_eq_true rfl), (Nat.le_of_ble_eq_true rfl)⟩ rfl (fun t1 H locs hP hD hS => absurd (show (1 : Nat) = 0 from t1) (by decide)) (fun t1 H locs q ce hP hD hS hq hqv hqc => ?_)
  refine vx_catch (E := exN 1) (name := exN 1) hown [] ⟨0, 17, 18, 207⟩ [] (htab.trans rfl) (fun z hz => nomatch hz) (by decide) (by decide) (hts _ cl_L_207) (va_Nw.use rfl (hE.2.2.2.2.2.2.2.2.1 _ (by decide))) hq hqv hqc ?_
  refine lv_astore_n (lv' := [(1, .ref q), (0, .ref (a 0))]) hx hb dL_isNoPoint_18 rfl hl (by decide) rfl (fun ls hl => ?_)
  refine lv_iconst (v := 1) hx hb dL_isNoPoint_19 (by decide) ?_
  exact fin _ _ _ _ _ _ (Nat.le_of_ble_eq_true rfl) (Nat.le_of_ble_eq_true rfl) hP hS dL_isNoPoint_20
set_option maxHeartbeats 4000000 in
set_option maxRecDepth 100000 in
theorem H_isBad (D : va_G) (g : Nat → ClassId) (x : Xd) (l : Launch) (hl0 : l.stackTraces = false) (a : Nat → Nat) (e9 : Nat → Nat → Nat) (σ σ' : S6) (v : Int32) (h : s6_kindAt σ 13 = some (2, v, σ')) : CnM D g x l yL_isBad cL_isBad 2 [(0, 16, 17, 209)] 10 200 1 [.ref (a 0)] (w6 g a e9 σ) (w6 g a e9 σ') (some (.int 1)) := by
  refine CnM.mk (nar_z (Or.inr rfl)) (by decide +kernel) (Nat.le_of_ble_eq_true rfl) (fun p e s m args below meth c A Q ls X htab hD hP hS fin hl => ?_)
  obtain ⟨hx, hb, hml, -, -, hown, hts, hK, hA, hE⟩ := id X
  have hl : lv_has ls 2 [(0, .ref (a 0))] := hl
  refine lv_aload_n hx hb dL_isBad_0 rfl (lv_at hl 0 rfl) ?_
  refine lv_bipush (v := 13) hx hb dL_isBad_1 (by decide) ?_
  refine xcallA X (As := [.int 13]) (rest := []) (st1 := [.int v]) (K6_kindAt D g x l hl0 a e9 σ 13 _ h) mw_X6_kindAt ml_L_202 ⟨(Nat.le_of_ble_eq_true rfl), (Nat.le_of_ble_eq_true rfl)⟩ hP hD hS (w6_adr g a e9 σ σ') 0 rfl rfl rfl hl.1 rfl (Nat.le_of_ble_eq_true rfl) dL_isBad_3 ⟨(Nat.le_of_ble_eq_true rfl), (Nat.le_of_ble_eq_true rfl)⟩ rfl (fun t1 H locs hP hD hS => absurd (show (2 : Nat) = 0 from t1) (by decide)) (fun t1 H locs q ce hP hD hS hq hqv hqc => ?_)
  refine vx_catch (E := exN 2) (name := exN 2) hown [] ⟨0, 16, 17, 209⟩ [] (htab.trans rfl) (fun z hz => nomatch hz) (by decide) (by decide) (hts _ cl_L_209) (va_Nw.use rfl (hE.2.2.2.2.2.2.2.2.1 _ (by decide))) hq hqv hqc ?_
  refine lv_astore_n (lv' := [(1, .ref q), (0, .ref (a 0))]) hx hb dL_isBad_17 rfl hl (by decide) rfl (fun ls hl => ?_)
  refine lv_iconst (v := 1) hx hb dL_isBad_18 (by decide) ?_
  exact fin _ _ _ _ _ _ (Nat.le_of_ble_eq_true rfl) (Nat.le_of_ble_eq_true rfl) hP hS dL_isBad_19
set_option maxHeartbeats 4000000 in
set_option maxRecDepth 100000 in
theorem H_isNone (D : va_G) (g : Nat → ClassId) (x : Xd) (l : Launch) (hl0 : l.stackTraces = false) (σ1 σ2 : S6) (v : Int64) (h1 : s6_many σ60 3 = some (25, σ1)) (h2 : s6_value σ1 0 0 = some (4, v, σ2)) : CnM D g x l yL_isNone cL_isNone 2 [(20, 38, 39, 211)] 10 300 400 [] [] [] (some (.int 1)) := by
  refine CnM.mk (nar_z (Or.inr rfl)) (by decide +kernel) (Nat.le_of_ble_eq_true rfl) (fun p e s m args below meth c A Q ls X htab hD hP hS fin hl => ?_)
  obtain ⟨hx, hb, hml, -, -, hown, hts, hK, hA, hE⟩ := id X
  have hl : lv_has ls 2 [] := hl
  refine newX6 X [] ⟨(Nat.le_of_ble_eq_true rfl), (Nat.le_of_ble_eq_true rfl)⟩ hP hD hS hl.1 (Nat.le_of_ble_eq_true rfl) ⟨(Nat.le_of_ble_eq_true rfl), (Nat.le_of_ble_eq_true rfl)⟩ dL_isNone_0 dL_isNone_3 dL_isNone_4 (fun a e9 H locs hP hD hS => ?_)
  refine lv_astore_n (lv' := [(0, .ref (a 0))]) hx hb dL_isNone_7 rfl hl (by decide) rfl (fun ls hl => ?_)
  refine lv_aload_n hx hb dL_isNone_8 rfl (lv_at hl 0 rfl) ?_
  refine lv_iconst (v := 3) hx hb dL_isNone_9 (by decide) ?_
  refine c6 X [] (As := [.int 3]) (rest := []) (st1 := [.int 25]) (K6_many D g x l a e9 σ60 3 _ h1) mw_X6_many ml_L_116 rfl ⟨(Nat.le_of_ble_eq_true rfl), (Nat.le_of_ble_eq_true rfl)⟩ hP hD hS rfl hl.1 rfl (Nat.le_of_ble_eq_true rfl) dL_isNone_10 ⟨(Nat.le_of_ble_eq_true rfl), (Nat.le_of_ble_eq_true rfl)⟩ rfl (fun H locs hP hD hS => ?_)
  refine lv_bipush (v := 25) hx hb dL_isNone_13 (by decide) ?_
  refine lv_icmp_eq (tgt := 20) hx hb dL_isNone_15 (by decide) (fun _ => ?_) (fun b => absurd rfl b)
  refine lv_aload_n hx hb dL_isNone_20 rfl (lv_at hl 0 rfl) ?_
  refine lv_iconst (v := 0) hx hb dL_isNone_21 (by decide) ?_
  refine lv_iconst (v := 0) hx hb dL_isNone_22 (by decide) ?_
  refine xcallA X (As := [.int 0, .int 0]) (rest := []) (st1 := [.long v]) (ws := w6 g a e9 σ1) (K6_value D g x l hl0 a e9 σ1 0 0 _ h2) mw_X6_value ml_L_171 ⟨(Nat.le_of_ble_eq_true rfl), (Nat.le_of_ble_eq_true rfl)⟩ hP hD hS (w6_adr g a e9 σ1 σ2) 0 rfl rfl rfl hl.1 rfl (Nat.le_of_ble_eq_true rfl) dL_isNone_23 ⟨(Nat.le_of_ble_eq_true rfl), (Nat.le_of_ble_eq_true rfl)⟩ rfl (fun t1 H locs hP hD hS => absurd (show (4 : Nat) = 0 from t1) (by decide)) (fun t1 H locs q ce hP hD hS hq hqv hqc => ?_)
  refine vx_catch (E := exN 4) (name := exN 4) hown [] ⟨20, 38, 39, 211⟩ [] (htab.trans rfl) (fun z hz => nomatch hz) (by decide) (by decide) (hts _ cl_L_211) (va_Nw.use rfl (hE.2.2.2.2.2.2.2.2.1 _ (by decide))) hq hqv hqc ?_
  refine lv_astore_n (lv' := [(1, .ref q), (0, .ref (a 0))]) hx hb dL_isNone_39 rfl hl (by decide) rfl (fun ls hl => ?_)
  refine lv_iconst (v := 1) hx hb dL_isNone_40 (by decide) ?_
  exact fin _ _ _ _ _ _ (Nat.le_of_ble_eq_true rfl) (Nat.le_of_ble_eq_true rfl) (fun k q h => by simp at h) hS dL_isNone_41
