/-! The law's text (by program). -/
def PSk (k : Int) (ps : List (Int × Int × Int)) : Prop := (ps.length : Int) = k ∧ zC (azs ps) = k ∧ zM (azs ps) = 0 ∧ zD (azs ps) = 0 ∧ OkZ (azs ps) ∧ Rz k (-5) 5 (zX (azs ps)) ∧ (∀ q ∈ ps, (-5 ≤ q.1 ∧ q.1 ≤ 5) ∧ (-20 ≤ q.2.1 ∧ q.2.1 ≤ 20) ∧ (-4 ≤ q.2.2 ∧ q.2.2 ≤ 4)) ∧ ((txs ps).length : Int) ≤ 25 * k ∧
  (∀ ps1 q ps2, ps = ps1 ++ q :: ps2 → OkZ (azs ps1) ∧ zM (azs ps1) = 0 ∧ zD (azs ps1) = 0 ∧ zC (azs ps1) = ps1.length ∧ Fre (zC (azs ps1)) (zX (azs ps1)) (-1) q.1)
theorem psk0 : PSk 0 [] := by
  refine ⟨rfl, rfl, rfl, rfl, ⟨Int.le_refl 0, by show (0 : Int) ≤ 5; omega, Int.le_refl 0, by show (0 : Int) ≤ 2; omega, Int.le_refl 0, by show (0 : Int) ≤ 4; omega, fun k k0 k1 => absurd (show k < 0 from k1) (by omega), fun k k0 k1 => absurd (show k < 0 from k1) (by omega), fun k k0 k1 => absurd (show k < 0 from k1) (by omega), fun j k j0 j1 => absurd (show j < 0 from j1) (by omega)⟩, fun k k0 k1 => absurd (show k < 0 from k1) (by omega), fun q h => absurd h List.not_mem_nil, by show (0 : Int) ≤ 0; omega, fun ps1 q ps2 h => ?_⟩
  cases ps1 <;> cases h
theorem stm_len (ps : List (Int × Int × Int)) (q : Int × Int × Int) : (txs (ps ++ [q])).length ≤ (txs ps).length + 25 := by
  rw [txs_a]
  have l1 : (litL 6).length = 6 := rfl
  have l2 : (litL 7).length = 1 := rfl
  have l3 : (litL 8).length = 8 := rfl
  have l4 : (litL 9).length = 1 := rfl
  have d1 := dcN_le q.1
  have d2 := dcN_le q.2.1
  have d3 := dcN_le q.2.2
  simp only [List.length_append]
  omega

theorem PSk.a {k : Int} {ps : List (Int × Int × Int)} (h : PSk k ps) (k5 : k < 5) {xv yv wv : Int} (x0 : -5 ≤ xv) (x1 : xv ≤ 5) (y0 : -20 ≤ yv) (y1 : yv ≤ 20) (w0 : -4 ≤ wv) (w1 : wv ≤ 4) (hf : Fre k (zX (azs ps)) (-1) xv) : PSk (k + 1) (ps ++ [(xv, yv, wv)]) := by
  obtain ⟨h1, h2, h3, h4, h5, h6, h7, h8, h9⟩ := h
  have hl := stm_len ps (xv, yv, wv)
  have hf' : Fre (zC (azs ps)) (zX (azs ps)) (-1) xv := by
    rw [h2]
    exact hf
  have e := azs_a ps (xv, yv, wv)
  have c5 : zC (azs ps) < 5 := by omega
  refine ⟨by rw [List.length_append]; show ((ps.length + 1 : Nat) : Int) = k + 1; omega, ?_, ?_, ?_, ?_, ?_, fun q hq => ?_, by omega, fun ps1 q ps2 he => ?_⟩
  · rw [e]
    show zC (azs ps) + 1 = k + 1
    omega
  · rw [e]
    exact h3
  · rw [e]
    exact h4
  · rw [e]
    exact h5.ap c5 hf' (by show -9 ≤ xv; omega) (by show xv ≤ 9; omega) y0 y1 (by show -9 ≤ wv; omega) (by show wv ≤ 9; omega)
  · rw [e]
    show Rz (k + 1) (-5) 5 (uz (zX (azs ps)) (zC (azs ps)) xv)
    rw [h2]
    exact h6.a x0 x1
  · rcases List.mem_append.mp hq with h | h
    · exact h7 q h
    · have := List.mem_singleton.mp h
      subst this
      exact ⟨⟨x0, x1⟩, ⟨y0, y1⟩, ⟨w0, w1⟩⟩
  · rcases List.eq_nil_or_concat ps2 with h | ⟨ps3, q3, h⟩
    · subst h
      have he2 := List.append_inj' he rfl
      obtain ⟨ea, eb⟩ := he2
      have eb : (xv, yv, wv) = q := by
        injection eb
      subst ea eb
      exact ⟨h5, h3, h4, h2.trans h1.symm, hf'⟩
    · rw [List.concat_eq_append] at h
      subst h
      have he2 : ps ++ [(xv, yv, wv)] = (ps1 ++ q :: ps3) ++ [q3] := by
        rw [he, List.append_assoc]
        rfl
      exact h9 ps1 q ps3 (List.append_inj' he2 rfl).1
section TXT
variable {p : Program} {l : Launch} {e : Env} {R : Room} {s : State} {m : MethodId} {args : Array Value} {below : List Frame} {meth : Method} {c : Code} {H : Heap} {locs : List Loc} {cells slots : Nat} {Q : State → Prop}
variable {D : va_G} {g : Nat → ClassId} {x : Xd} {A : Nat → Prop} {ret0 : Option FieldType} {pc : Nat} {ls : Array Slot}
abbrev lvT (o tv : Nat) (k : Int) : List (Nat × Value) := [(5, .int (z3 k)), (4, .ref tv), (0, .ref o), (1, .int 0), (2, .int 4), (3, .int 5)]

set_option maxHeartbeats 8000000 in
set_option maxRecDepth 100000 in
theorem txI (X : Cx p s m args meth c RL cL_text 7 ret0 D g x A) (hR : 6 ≤ R.frames ∧ 300 ≤ R.locals) {o xa ya wa j tv : Nat} {N k : Int} {xs ys ws : Nat → Int32} {Xf : Int → Int} {TW : va_W} {L : List Nat} (k0 : 0 ≤ k) (kN : k < N) (N4 : N ≤ 4) (hj : j < 50000) (hT : TS D g x l tv TW L) (hLL : (L.length : Int) ≤ 25 * k) (hx9 : En 0 k xs Xf) (hr9 : Rz k (-5) 5 Xf) (hi9 : Inj k Xf) (hP : va_P D vwCl (lW g o x.2.2.1 xa ya wa (nI j) (z3 N) xs ys ws ++ TW) H) (hD : va_D A (lW g o x.2.2.1 xa ya wa (nI j) (z3 N) xs ys ws ++ TW)) (hS : va_S A s.heap H locs) (hl : lv_has ls 7 (lvT o tv k)) (hcs : cells + 12 ≤ R.cells ∧ slots + 9240 ≤ R.slots)
    (kk : ∀ (xv yv wv : Int) (ta tb : Nat) (f : Nat → Int32) (H1 : Heap) (locs1 : List Loc) (ls1 : Array Slot), -5 ≤ xv → xv ≤ 5 → -20 ≤ yv → yv ≤ 20 → -4 ≤ wv → wv ≤ 4 → Fre k Xf (-1) xv → Tx (((((((L ++ litL 6) ++ dcN xv) ++ litL 7) ++ dcN yv) ++ litL 8) ++ dcN wv) ++ litL 9) f → va_P D vwCl (lW g o x.2.2.1 xa ya wa (nI (j + 3)) (z3 N) (upd xs k.toNat (z3 xv)) (upd ys k.toNat (z3 yv)) (upd ws k.toNat (z3 wv)) ++ stW g ta tb (((((((L ++ litL 6) ++ dcN xv) ++ litL 7) ++ dcN yv) ++ litL 8) ++ dcN wv) ++ litL 9).length f) H1 → va_D A (lW g o x.2.2.1 xa ya wa (nI (j + 3)) (z3 N) (upd xs k.toNat (z3 xv)) (upd ys k.toNat (z3 yv)) (upd ws k.toNat (z3 wv)) ++ stW g ta tb (((((((L ++ litL 6) ++ dcN xv) ++ litL 7) ++ dcN yv) ++ litL 8) ++ dcN wv) ++ litL 9).length f) → va_S A s.heap H1 locs1 → lv_has ls1 7 (lvT o ta (k + 1)) → W p l e R s m args below meth c H1 locs1 (cells + 12) (slots + 9240) Q (F0 m 17 ls1 [])) : W p l e R s m args below meth c H locs cells slots Q (F0 m 17 ls []) := by
  obtain ⟨hx, hb, hml, -, -, hown, hts, hK, hA, hE⟩ := id X
  have hk9 : Int32.toNatClampNeg (z3 k) = k.toNat := z3nat (by omega) (by omega)
  have gk : ¬ (z3 k < 0 ∨ 5 ≤ Int32.toNatClampNeg (z3 k)) := gix k0 (by omega) (by decide)
  have AFTER : ∀ (cv : Int) (H : Heap) (locs : List Loc) (ls : Array Slot), -5 ≤ cv → cv ≤ 5 → Fre k Xf (-1) cv → va_P D vwCl (lW g o x.2.2.1 xa ya wa (nI (j + 1)) (z3 N) xs ys ws ++ TW) H → va_D A (lW g o x.2.2.1 xa ya wa (nI (j + 1)) (z3 N) xs ys ws ++ TW) → va_S A s.heap H locs → lv_has ls 7 ((6, .int (z3 cv)) :: lvT o tv k) → W p l e R s m args below meth c H locs cells slots Q (F0 m 66 ls []) := by
    intro cv H locs ls c0 c1 hf hP hD hS hl
    have hl : lv_has ls 7 [(6, .int (z3 cv)), (5, .int (z3 k)), (4, .ref tv), (0, .ref o), (1, .int 0), (2, .int 4), (3, .int 5)] := hl
    refine lv_aload_n hx hb dL_text_66 rfl (lv_at hl 3 rfl) ?_
    refine mget X fl_L_13 hP 0 rfl rfl dL_text_67 ?_
    refine lv_iload hx hb dL_text_70 (lv_at hl 1 rfl) ?_
    refine lv_iload hx hb dL_text_72 (lv_at hl 0 rfl) ?_
    refine mist X (n := 5) (ws1 := lW g o x.2.2.1 xa ya wa (nI (j + 1)) (z3 N) (upd xs (Int32.toNatClampNeg (z3 k)) (z3 cv)) ys ws ++ TW) hP hD hS 1 rfl gk dL_text_74 rfl (fun H locs hP hD hS => ?_)
    rw [hk9] at hP hD
    refine lv_aload_n hx hb dL_text_75 rfl (lv_at hl 3 rfl) ?_
    refine mget X fl_L_16 hP 0 rfl rfl dL_text_76 ?_
    refine lv_iload hx hb dL_text_79 (lv_at hl 1 rfl) ?_
    refine lv_aload_n hx hb dL_text_81 rfl (lv_at hl 3 rfl) ?_
    refine lv_bipush (v := z3 (-20)) hx hb dL_text_82 (by decide +kernel) ?_
    refine lv_bipush (v := z3 20) hx hb dL_text_84 (by decide +kernel) ?_
    obtain ⟨yv0, yv1⟩ := drx_b (x := x) (k := (j + 1)) (m := 20 - (-20) + 1) (by omega)
    refine mcallV X (As := [.int (z3 (-20)), .int (z3 20)]) (rest := [.int (z3 k), .ref ya]) (ws1 := lW g o x.2.2.1 xa ya wa (nI (j + 2)) (z3 N) (upd xs k.toNat (z3 cv)) ys ws ++ TW) (st1 := [.int (z3 (-20 + drx x (j + 1) (20 - (-20) + 1))), .int (z3 k), .ref ya]) (kL_from D g x l o xa ya wa (j + 1) (z3 N) (by omega) (-20) 20 (by omega) (by omega) (by omega)) mw_L_from ml_L_61 ⟨Nat.le_trans (by decide) hR.1, Nat.le_trans (by decide) hR.2⟩ hP hD hS [0] (by decide +kernel) rfl rfl 0 rfl rfl rfl hl.1 rfl (Nat.le_of_ble_eq_true rfl) dL_text_86 ⟨by omega, by omega⟩ rfl rfl (fun H locs hP hD hS => ?_)
    obtain ⟨yv, hyv⟩ : ∃ v : Int, v = -20 + drx x (j + 1) (20 - (-20) + 1) := ⟨_, rfl⟩
    rw [← hyv]
    have yva : -20 ≤ yv := by omega
    have yvb : yv ≤ 20 := by omega
    refine mist X (n := 5) (ws1 := lW g o x.2.2.1 xa ya wa (nI (j + 2)) (z3 N) (upd xs k.toNat (z3 cv)) (upd ys (Int32.toNatClampNeg (z3 k)) (z3 yv)) ws ++ TW) hP hD hS 2 rfl gk dL_text_89 rfl (fun H locs hP hD hS => ?_)
    rw [hk9] at hP hD
    refine lv_aload_n hx hb dL_text_90 rfl (lv_at hl 3 rfl) ?_
    refine mget X fl_L_19 hP 0 rfl rfl dL_text_91 ?_
    refine lv_iload hx hb dL_text_94 (lv_at hl 1 rfl) ?_
    refine lv_aload_n hx hb dL_text_96 rfl (lv_at hl 3 rfl) ?_
    refine lv_bipush (v := z3 (-4)) hx hb dL_text_97 (by decide +kernel) ?_
    refine lv_iconst (v := z3 4) hx hb dL_text_99 (by decide +kernel) ?_
    obtain ⟨wv0, wv1⟩ := drx_b (x := x) (k := (j + 2)) (m := 4 - (-4) + 1) (by omega)
    refine mcallV X (As := [.int (z3 (-4)), .int (z3 4)]) (rest := [.int (z3 k), .ref wa]) (ws1 := lW g o x.2.2.1 xa ya wa (nI (j + 3)) (z3 N) (upd xs k.toNat (z3 cv)) (upd ys k.toNat (z3 yv)) ws ++ TW) (st1 := [.int (z3 (-4 + drx x (j + 2) (4 - (-4) + 1))), .int (z3 k), .ref wa]) (kL_from D g x l o xa ya wa (j + 2) (z3 N) (by omega) (-4) 4 (by omega) (by omega) (by omega)) mw_L_from ml_L_61 ⟨Nat.le_trans (by decide) hR.1, Nat.le_trans (by decide) hR.2⟩ hP hD hS [0] (by decide +kernel) rfl rfl 0 rfl rfl rfl hl.1 rfl (Nat.le_of_ble_eq_true rfl) dL_text_100 ⟨by omega, by omega⟩ rfl rfl (fun H locs hP hD hS => ?_)
    obtain ⟨wv, hwv⟩ : ∃ v : Int, v = -4 + drx x (j + 2) (4 - (-4) + 1) := ⟨_, rfl⟩
    rw [← hwv]
    have wva : -4 ≤ wv := by omega
    have wvb : wv ≤ 4 := by omega
    refine mist X (n := 5) (ws1 := lW g o x.2.2.1 xa ya wa (nI (j + 3)) (z3 N) (upd xs k.toNat (z3 cv)) (upd ys k.toNat (z3 yv)) (upd ws (Int32.toNatClampNeg (z3 k)) (z3 wv)) ++ TW) hP hD hS 3 rfl gk dL_text_103 rfl (fun H locs hP hD hS => ?_)
    rw [hk9] at hP hD
    refine tapN X hR (lW g o x.2.2.1 xa ya wa (nI (j + 3)) (z3 N) (upd xs k.toNat (z3 cv)) (upd ys k.toNat (z3 yv)) (upd ws k.toNat (z3 wv)) ++ TW) hP hD hS hl.1 dL_text_104 dL_text_107 dL_text_108 ⟨by omega, by omega⟩ (fun q r H locs hP hD hS => ?_)
    refine tapD X hR (lW g o x.2.2.1 xa ya wa (nI (j + 3)) (z3 N) (upd xs k.toNat (z3 cv)) (upd ys k.toNat (z3 yv)) (upd ws k.toNat (z3 wv))) TW hT hP hD hS hl.1 (lv_at hl 2 rfl) dL_text_111 dL_text_113 ⟨by omega, by omega⟩ (fun r0 cap0 f0 H locs hc0 hL0 hf0 hP hD hS => ?_)
    have l1 : (litL 6).length = 6 := rfl
    have l2 : (litL 7).length = 1 := rfl
    have l3 : (litL 8).length = 8 := rfl
    have l4 : (litL 9).length = 1 := rfl
    have d1 := dcN_le cv
    have d2 := dcN_le yv
    have d3 := dcN_le wv
    refine tapC X hR (lW g o x.2.2.1 xa ya wa (nI (j + 3)) (z3 N) (upd xs k.toNat (z3 cv)) (upd ys k.toNat (z3 yv)) (upd ws k.toNat (z3 wv))) hf0 hL0 hc0 6 (by decide) (by simp only [List.length_append]; omega) hP hD hS (ldc_L_80 hE) hl.1 dL_text_116 dL_text_118 ⟨by omega, by omega⟩ (fun r1 cap1 f1 H locs hc1 hL1 hf1 hP hD hS => ?_)
    refine lv_iload hx hb dL_text_121 (lv_at hl 0 rfl) ?_
    refine tapI X hR (lW g o x.2.2.1 xa ya wa (nI (j + 3)) (z3 N) (upd xs k.toNat (z3 cv)) (upd ys k.toNat (z3 yv)) (upd ws k.toNat (z3 wv))) hf1 hL1 hc1 cv (by omega) (by omega) (by simp only [List.length_append]; omega) hP hD hS hl.1 dL_text_123 ⟨by omega, by omega⟩ (fun r2 cap2 f2 H locs hc2 hL2 hf2 hP hD hS => ?_)
    refine tapC X hR (lW g o x.2.2.1 xa ya wa (nI (j + 3)) (z3 N) (upd xs k.toNat (z3 cv)) (upd ys k.toNat (z3 yv)) (upd ws k.toNat (z3 wv))) hf2 hL2 hc2 7 (by decide) (by simp only [List.length_append]; omega) hP hD hS (ldc_L_85 hE) hl.1 dL_text_126 dL_text_128 ⟨by omega, by omega⟩ (fun r3 cap3 f3 H locs hc3 hL3 hf3 hP hD hS => ?_)
    refine lv_aload_n hx hb dL_text_131 rfl (lv_at hl 3 rfl) ?_
    refine mget X fl_L_16 hP 0 rfl rfl dL_text_132 ?_
    refine lv_iload hx hb dL_text_135 (lv_at hl 1 rfl) ?_
    refine mild X (n := 5) (f := upd ys k.toNat (z3 yv)) hP 2 rfl gk dL_text_137 ?_
    rw [hk9, upd_s]
    refine tapI X hR (lW g o x.2.2.1 xa ya wa (nI (j + 3)) (z3 N) (upd xs k.toNat (z3 cv)) (upd ys k.toNat (z3 yv)) (upd ws k.toNat (z3 wv))) hf3 hL3 hc3 yv (by omega) (by omega) (by simp only [List.length_append]; omega) hP hD hS hl.1 dL_text_138 ⟨by omega, by omega⟩ (fun r4 cap4 f4 H locs hc4 hL4 hf4 hP hD hS => ?_)
    refine tapC X hR (lW g o x.2.2.1 xa ya wa (nI (j + 3)) (z3 N) (upd xs k.toNat (z3 cv)) (upd ys k.toNat (z3 yv)) (upd ws k.toNat (z3 wv))) hf4 hL4 hc4 8 (by decide) (by simp only [List.length_append]; omega) hP hD hS (ldc_L_87 hE) hl.1 dL_text_141 dL_text_143 ⟨by omega, by omega⟩ (fun r5 cap5 f5 H locs hc5 hL5 hf5 hP hD hS => ?_)
    refine lv_aload_n hx hb dL_text_146 rfl (lv_at hl 3 rfl) ?_
    refine mget X fl_L_19 hP 0 rfl rfl dL_text_147 ?_
    refine lv_iload hx hb dL_text_150 (lv_at hl 1 rfl) ?_
    refine mild X (n := 5) (f := upd ws k.toNat (z3 wv)) hP 3 rfl gk dL_text_152 ?_
    rw [hk9, upd_s]
    refine tapI X hR (lW g o x.2.2.1 xa ya wa (nI (j + 3)) (z3 N) (upd xs k.toNat (z3 cv)) (upd ys k.toNat (z3 yv)) (upd ws k.toNat (z3 wv))) hf5 hL5 hc5 wv (by omega) (by omega) (by simp only [List.length_append]; omega) hP hD hS hl.1 dL_text_153 ⟨by omega, by omega⟩ (fun r6 cap6 f6 H locs hc6 hL6 hf6 hP hD hS => ?_)
    refine tapC X hR (lW g o x.2.2.1 xa ya wa (nI (j + 3)) (z3 N) (upd xs k.toNat (z3 cv)) (upd ys k.toNat (z3 yv)) (upd ws k.toNat (z3 wv))) hf6 hL6 hc6 9 (by decide) (by simp only [List.length_append]; omega) hP hD hS (ldc_L_89 hE) hl.1 dL_text_156 dL_text_158 ⟨by omega, by omega⟩ (fun r7 cap7 f7 H locs hc7 hL7 hf7 hP hD hS => ?_)
    refine tapT X hR (lW g o x.2.2.1 xa ya wa (nI (j + 3)) (z3 N) (upd xs k.toNat (z3 cv)) (upd ys k.toNat (z3 yv)) (upd ws k.toNat (z3 wv))) hf7 hL7 hc7 hP hD hS hl.1 dL_text_161 ⟨by omega, by omega⟩ (fun ta tb f H locs hf9 hP hD hS => ?_)
    refine lv_astore (lv' := [(4, .ref ta), (6, .int (z3 cv)), (5, .int (z3 k)), (0, .ref o), (1, .int 0), (2, .int 4), (3, .int 5)]) hx hb dL_text_164 hl (by decide) rfl (fun ls hl => ?_)
    refine lv_iinc (v := z3 (k + 1)) (lv' := [(5, .int (z3 (k + 1))), (4, .ref ta), (6, .int (z3 cv)), (0, .ref o), (1, .int 0), (2, .int 4), (3, .int 5)]) hx hb dL_text_166 hl (k := 2) rfl (show z3 k + 1 = z3 (k + 1) by rw [l3_1, z3a]) (by decide) rfl (fun ls hl => ?_)
    refine lv_goto (tgt := 17) hx hb dL_text_169 (by decide) ?_
    refine W.widen (k := cells + 12) (n := slots + 9240) (by omega) (by omega) ?_
    exact kk cv yv wv ta tb f H locs ls c0 c1 yva yvb wva wvb hf hf9 hP hD hS (lv_sub hl [0, 1, 3, 4, 5, 6] rfl)
  have WL : ∀ (i : Nat) (cv : Int) (H : Heap) (locs : List Loc) (ls : Array Slot), -5 ≤ cv → cv ≤ 5 → (∃ i1, i1 ≤ i ∧ ∀ k1, 0 ≤ k1 → k1 < k → Xf k1 ≠ nxi i1 cv) → va_P D vwCl (lW g o x.2.2.1 xa ya wa (nI (j + 1)) (z3 N) xs ys ws ++ TW) H → va_D A (lW g o x.2.2.1 xa ya wa (nI (j + 1)) (z3 N) xs ys ws ++ TW) → va_S A s.heap H locs → lv_has ls 7 ((6, .int (z3 cv)) :: lvT o tv k) → W p l e R s m args below meth c H locs cells slots Q (F0 m 35 ls []) := by
    intro i
    induction i with
    | zero =>
      intro cv H locs ls c0 c1 hf hP hD hS hl
      have hl : lv_has ls 7 [(6, .int (z3 cv)), (5, .int (z3 k)), (4, .ref tv), (0, .ref o), (1, .int 0), (2, .int 4), (3, .int 5)] := hl
      refine lv_aload_n hx hb dL_text_35 rfl (lv_at hl 3 rfl) ?_
      refine lv_iload hx hb dL_text_36 (lv_at hl 0 rfl) ?_
      refine lv_iload hx hb dL_text_38 (lv_at hl 1 rfl) ?_
      obtain ⟨i1, i0, hf⟩ := hf
      have i2 : i1 = 0 := by omega
      subst i2
      refine mcallV X (As := [.int (z3 cv), .int (z3 k)]) (rest := []) (ws1 := lW g o x.2.2.1 xa ya wa (nI (j + 1)) (z3 N) xs ys ws ++ TW) (st1 := [.int 0]) (kL_isTaken D g x l o xa x.2.2.1 ya wa (nI (j + 1)) (z3 N) xs (z3 cv) (z3 k) _ (tk_n k0 (by omega) hx9 (fun q q0 q1 => ⟨by have := hr9 q q0 q1; omega, by have := hr9 q q0 q1; omega⟩) hf (by omega) (by omega))) mw_L_isTaken ml_L_69 ⟨Nat.le_trans (by decide) hR.1, Nat.le_trans (by decide) hR.2⟩ hP hD hS [0, 1] (by decide +kernel) rfl rfl 0 rfl rfl rfl hl.1 rfl (Nat.le_of_ble_eq_true rfl) dL_text_40 ⟨by omega, by omega⟩ rfl rfl (fun H locs hP hD hS => ?_)
      refine lv_if_eq (tgt := 66) hx hb dL_text_43 (by decide) (fun _ => ?_) (fun b => absurd rfl b)
      exact AFTER cv H locs ls c0 c1 (fun k1 q0 q1 _ => hf k1 q0 q1) hP hD hS hl
    | succ i ih =>
      intro cv H locs ls c0 c1 hf hP hD hS hl
      have hl : lv_has ls 7 [(6, .int (z3 cv)), (5, .int (z3 k)), (4, .ref tv), (0, .ref o), (1, .int 0), (2, .int 4), (3, .int 5)] := hl
      refine lv_aload_n hx hb dL_text_35 rfl (lv_at hl 3 rfl) ?_
      refine lv_iload hx hb dL_text_36 (lv_at hl 0 rfl) ?_
      refine lv_iload hx hb dL_text_38 (lv_at hl 1 rfl) ?_
      by_cases w : ∀ k1, 0 ≤ k1 → k1 < k → Xf k1 ≠ cv
      · refine mcallV X (As := [.int (z3 cv), .int (z3 k)]) (rest := []) (ws1 := lW g o x.2.2.1 xa ya wa (nI (j + 1)) (z3 N) xs ys ws ++ TW) (st1 := [.int 0]) (kL_isTaken D g x l o xa x.2.2.1 ya wa (nI (j + 1)) (z3 N) xs (z3 cv) (z3 k) _ (tk_n k0 (by omega) hx9 (fun q q0 q1 => ⟨by have := hr9 q q0 q1; omega, by have := hr9 q q0 q1; omega⟩) w (by omega) (by omega))) mw_L_isTaken ml_L_69 ⟨Nat.le_trans (by decide) hR.1, Nat.le_trans (by decide) hR.2⟩ hP hD hS [0, 1] (by decide +kernel) rfl rfl 0 rfl rfl rfl hl.1 rfl (Nat.le_of_ble_eq_true rfl) dL_text_40 ⟨by omega, by omega⟩ rfl rfl (fun H locs hP hD hS => ?_)
        refine lv_if_eq (tgt := 66) hx hb dL_text_43 (by decide) (fun _ => ?_) (fun b => absurd rfl b)
        exact AFTER cv H locs ls c0 c1 (fun k1 q0 q1 _ => w k1 q0 q1) hP hD hS hl
      · obtain ⟨k1, q0, q1, e1⟩ : ∃ k1, 0 ≤ k1 ∧ k1 < k ∧ Xf k1 = cv := Classical.byContradiction fun z => w fun k1 q0 q1 e1 => z ⟨k1, q0, q1, e1⟩
        refine mcallV X (As := [.int (z3 cv), .int (z3 k)]) (rest := []) (ws1 := lW g o x.2.2.1 xa ya wa (nI (j + 1)) (z3 N) xs ys ws ++ TW) (st1 := [.int 1]) (kL_isTaken D g x l o xa x.2.2.1 ya wa (nI (j + 1)) (z3 N) xs (z3 cv) (z3 k) _ (tk_y k0 (by omega) hx9 (fun q q0 q1 => ⟨by have := hr9 q q0 q1; omega, by have := hr9 q q0 q1; omega⟩) hi9 q0 q1 e1)) mw_L_isTaken ml_L_69 ⟨Nat.le_trans (by decide) hR.1, Nat.le_trans (by decide) hR.2⟩ hP hD hS [0, 1] (by decide +kernel) rfl rfl 0 rfl rfl rfl hl.1 rfl (Nat.le_of_ble_eq_true rfl) dL_text_40 ⟨by omega, by omega⟩ rfl rfl (fun H locs hP hD hS => ?_)
        refine lv_if_eq (tgt := 66) hx hb dL_text_43 (by decide) (fun b => absurd b (by decide)) (fun _ => ?_)
        obtain ⟨i1, i0, hf⟩ := hf
        obtain ⟨i2, rfl⟩ : ∃ i2, i1 = i2 + 1 := by
          cases i1 with
          | zero => exact absurd e1 (hf k1 q0 q1)
          | succ i2 => exact ⟨i2, rfl⟩
        have hn := nx5_b c0 c1
        refine lv_iload hx hb dL_text_46 (lv_at hl 0 rfl) ?_
        refine lv_iload_n hx hb dL_text_48 rfl (lv_at hl 6 rfl) ?_
        refine lv_icmp_ne (tgt := 57) hx hb dL_text_49 (by decide) (fun b => ?_) (fun b => ?_)
        · have b5 : cv ≠ 5 := fun z => b (by rw [z]; rfl)
          refine lv_iload hx hb dL_text_57 (lv_at hl 0 rfl) ?_
          refine lv_iconst (v := 1) hx hb dL_text_59 (by decide) ?_
          refine lv_iadd hx hb dL_text_60 ?_
          rw [l3_1, z3a, show cv + 1 = nx5 cv from (if_neg b5).symm]
          refine lv_istore (lv' := [(6, .int (z3 (nx5 cv))), (5, .int (z3 k)), (4, .ref tv), (0, .ref o), (1, .int 0), (2, .int 4), (3, .int 5)]) hx hb dL_text_61 hl (by decide) rfl (fun ls hl => ?_)
          refine lv_goto (tgt := 35) hx hb dL_text_63 (by decide) ?_
          exact ih (nx5 cv) H locs ls hn.1 hn.2 ⟨i2, by omega, hf⟩ hP hD hS hl
        · have b5 : cv = 5 := (z3eq (a := cv) (b := 5) (by omega) (by omega) (by omega) (by omega)).1 b
          refine lv_iload_n hx hb dL_text_52 rfl (lv_at hl 6 rfl) ?_
          refine lv_ineg hx hb dL_text_53 ?_
          rw [show -(5 : Int32) = z3 (nx5 cv) by rw [show nx5 cv = -5 from if_pos b5]; rfl]
          refine lv_goto (tgt := 61) hx hb dL_text_54 (by decide) ?_
          refine lv_istore (lv' := [(6, .int (z3 (nx5 cv))), (5, .int (z3 k)), (4, .ref tv), (0, .ref o), (1, .int 0), (2, .int 4), (3, .int 5)]) hx hb dL_text_61 hl (by decide) rfl (fun ls hl => ?_)
          refine lv_goto (tgt := 35) hx hb dL_text_63 (by decide) ?_
          exact ih (nx5 cv) H locs ls hn.1 hn.2 ⟨i2, by omega, hf⟩ hP hD hS hl
  have hl : lv_has ls 7 [(5, .int (z3 k)), (4, .ref tv), (0, .ref o), (1, .int 0), (2, .int 4), (3, .int 5)] := hl
  refine lv_iload hx hb dL_text_17 (lv_at hl 0 rfl) ?_
  refine lv_aload_n hx hb dL_text_19 rfl (lv_at hl 2 rfl) ?_
  refine mget X fl_L_64 hP 0 rfl rfl dL_text_20 ?_
  refine lv_icmp_ge (tgt := 172) hx hb dL_text_23 (by decide) (fun b => absurd ((z3le (by omega) (by omega) (by omega) (by omega)).1 b) (by omega)) (fun _ => ?_)
  refine lv_aload_n hx hb dL_text_26 rfl (lv_at hl 2 rfl) ?_
  refine lv_iload_n hx hb dL_text_27 rfl (lv_at hl 5 rfl) ?_
  refine lv_ineg hx hb dL_text_28 ?_
  refine lv_iload_n hx hb dL_text_29 rfl (lv_at hl 5 rfl) ?_
  obtain ⟨u0, u1⟩ := drx_b (x := x) (k := j) (m := 5 - (-5) + 1) (by omega)
  refine mcallV X (As := [.int (z3 (-5)), .int (z3 5)]) (rest := []) (ws1 := lW g o x.2.2.1 xa ya wa (nI (j + 1)) (z3 N) xs ys ws ++ TW) (st1 := [.int (z3 (-5 + drx x j (5 - (-5) + 1)))]) (kL_from D g x l o xa ya wa j (z3 N) (by omega) (-5) 5 (by omega) (by omega) (by omega)) mw_L_from ml_L_61 ⟨Nat.le_trans (by decide) hR.1, Nat.le_trans (by decide) hR.2⟩ hP hD hS [0] (by decide +kernel) rfl rfl 0 rfl rfl rfl hl.1 rfl (Nat.le_of_ble_eq_true rfl) dL_text_30 ⟨by omega, by omega⟩ rfl rfl (fun H locs hP hD hS => ?_)
  refine lv_istore (lv' := [(6, .int (z3 (-5 + drx x j (5 - (-5) + 1)))), (5, .int (z3 k)), (4, .ref tv), (0, .ref o), (1, .int 0), (2, .int 4), (3, .int 5)]) hx hb dL_text_33 hl (by decide) rfl (fun ls hl => ?_)
  obtain ⟨i1, i0, hf⟩ := nx_free (C := k) (c := -5 + drx x j (5 - (-5) + 1)) (by omega) hi9 (by omega) (by omega)
  exact WL 3 _ H locs ls (by omega) (by omega) ⟨i1, i0, hf⟩ hP hD hS hl
set_option maxHeartbeats 4000000 in
theorem txL (X : Cx p s m args meth c RL cL_text 7 ret0 D g x A) (hR : 6 ≤ R.frames ∧ 300 ≤ R.locals) {o xa ya wa : Nat} {N : Int} (N1 : 1 ≤ N) (N4 : N ≤ 4)
    (kk : ∀ (ps : List (Int × Int × Int)) (j ta tb : Nat) (f : Nat → Int32) (xs ys ws : Nat → Int32) (H1 : Heap) (locs1 : List Loc) (ls1 : Array Slot) (cells slots : Nat), cells ≤ 48 → slots ≤ 36960 → PSk N ps → En 0 N xs (zX (azs ps)) → En 0 N ys (zY (azs ps)) → En 0 N ws (zW (azs ps)) → Tx (txs ps) f → va_P D vwCl (lW g o x.2.2.1 xa ya wa (nI j) (z3 N) xs ys ws ++ stW g ta tb (txs ps).length f) H1 → va_D A (lW g o x.2.2.1 xa ya wa (nI j) (z3 N) xs ys ws ++ stW g ta tb (txs ps).length f) → va_S A s.heap H1 locs1 → lv_has ls1 7 (lvT o ta N) → W p l e R s m args below meth c H1 locs1 cells slots Q (F0 m 172 ls1 [])) :
    ∀ (i : Nat) (k : Int) (j : Nat) (tv : Nat) (TW : va_W) (ps : List (Int × Int × Int)) (xs ys ws : Nat → Int32) (H : Heap) (locs : List Loc) (ls : Array Slot) (cells slots : Nat), k + i + 1 = N → 0 ≤ k → j + 3 * i < 49990 → cells + 12 * (i + 1) ≤ R.cells ∧ cells + 12 * (i + 1) ≤ 48 → slots + 9240 * (i + 1) ≤ R.slots ∧ slots + 9240 * (i + 1) ≤ 36960 → TS D g x l tv TW (txs ps) → PSk k ps → En 0 k xs (zX (azs ps)) → En 0 k ys (zY (azs ps)) → En 0 k ws (zW (azs ps)) → va_P D vwCl (lW g o x.2.2.1 xa ya wa (nI j) (z3 N) xs ys ws ++ TW) H → va_D A (lW g o x.2.2.1 xa ya wa (nI j) (z3 N) xs ys ws ++ TW) → va_S A s.heap H locs → lv_has ls 7 (lvT o tv k) → W p l e R s m args below meth c H locs cells slots Q (F0 m 17 ls []) := by
  obtain ⟨hx, hb, hml, -, -, hown, hts, hK, hA, hE⟩ := id X
  intro i
  induction i with
  | zero =>
    intro k j tv TW ps xs ys ws H locs ls cells slots hk k0 hj hc hs hT hps ex ey ew hP hD hS hl
    have hps9 := hps
    obtain ⟨h1, h2, h3, h4, h5, h6, h7, h8, h9⟩ := hps
    have hi := h5.2.2.2.2.2.2.2.2.2
    rw [h2] at hi
    refine txI X hR k0 (by omega) N4 (by omega) hT h8 ex h6 hi hP hD hS hl ⟨by omega, by omega⟩ (fun xv yv wv ta tb f H locs ls x0 x1 y0 y1 w0 w1 hf hTx hP hD hS hl => ?_)
    have hp1 := hps9.a (by omega) x0 x1 y0 y1 w0 w1 hf
    rw [← txs_a ps (xv, yv, wv)] at hTx hP hD
    have e := azs_a ps (xv, yv, wv)
    have ex1 := ex.a (v := xv) (Int.le_refl 0) k0
    have ey1 := ey.a (v := yv) (Int.le_refl 0) k0
    have ew1 := ew.a (v := wv) (Int.le_refl 0) k0
    rw [show (0 : Int) + k = k by omega] at ex1 ey1 ew1
    have eX : zX (azs (ps ++ [(xv, yv, wv)])) = uz (zX (azs ps)) k xv := by
      rw [e, ← h2]
      rfl
    have eY : zY (azs (ps ++ [(xv, yv, wv)])) = uz (zY (azs ps)) k yv := by
      rw [e, ← h2]
      rfl
    have eW : zW (azs (ps ++ [(xv, yv, wv)])) = uz (zW (azs ps)) k wv := by
      rw [e, ← h2]
      rfl
    have hkN : k + 1 = N := by omega
    rw [hkN] at hp1 ex1 ey1 ew1 hl
    refine lv_iload hx hb dL_text_17 (lv_at hl 0 rfl) ?_
    refine lv_aload_n hx hb dL_text_19 rfl (lv_at hl 2 rfl) ?_
    refine mget X fl_L_64 hP 0 rfl rfl dL_text_20 ?_
    refine lv_icmp_ge (tgt := 172) hx hb dL_text_23 (by decide) (fun _ => ?_) (fun b => absurd ((z3le (by omega) (by omega) (by omega) (by omega)).2 (Int.le_refl N)) b)
    exact kk _ _ ta tb f _ _ _ H locs ls _ _ (by omega) (by omega) hp1 (by rw [eX]; exact ex1) (by rw [eY]; exact ey1) (by rw [eW]; exact ew1) hTx hP hD hS hl
  | succ i ih =>
    intro k j tv TW ps xs ys ws H locs ls cells slots hk k0 hj hc hs hT hps ex ey ew hP hD hS hl
    have hps9 := hps
    obtain ⟨h1, h2, h3, h4, h5, h6, h7, h8, h9⟩ := hps
    have hi := h5.2.2.2.2.2.2.2.2.2
    rw [h2] at hi
    refine txI X hR k0 (by omega) N4 (by omega) hT h8 ex h6 hi hP hD hS hl ⟨by omega, by omega⟩ (fun xv yv wv ta tb f H locs ls x0 x1 y0 y1 w0 w1 hf hTx hP hD hS hl => ?_)
    have hp1 := hps9.a (by omega) x0 x1 y0 y1 w0 w1 hf
    rw [← txs_a ps (xv, yv, wv)] at hTx hP hD
    have e := azs_a ps (xv, yv, wv)
    have ex1 := ex.a (v := xv) (Int.le_refl 0) k0
    have ey1 := ey.a (v := yv) (Int.le_refl 0) k0
    have ew1 := ew.a (v := wv) (Int.le_refl 0) k0
    rw [show (0 : Int) + k = k by omega] at ex1 ey1 ew1
    have eX : zX (azs (ps ++ [(xv, yv, wv)])) = uz (zX (azs ps)) k xv := by
      rw [e, ← h2]
      rfl
    have eY : zY (azs (ps ++ [(xv, yv, wv)])) = uz (zY (azs ps)) k yv := by
      rw [e, ← h2]
      rfl
    have eW : zW (azs (ps ++ [(xv, yv, wv)])) = uz (zW (azs ps)) k wv := by
      rw [e, ← h2]
      rfl
    have hl8 := hp1.2.2.2.2.2.2.2.1
    exact ih (k + 1) (j + 3) ta _ _ _ _ _ H locs ls _ _ (by omega) (by omega) (by omega) ⟨by omega, by omega⟩ ⟨by omega, by omega⟩ (TS1 D g x l hTx (by omega)) hp1 (by rw [eX]; exact ex1) (by rw [eY]; exact ey1) (by rw [eW]; exact ew1) hP hD hS hl
end TXT
