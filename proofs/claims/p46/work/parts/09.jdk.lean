theorem mw_J0_coder_7d493 : MwV yJ0_coder_7d493 cJ0_coder_7d493 1 (some .byte) 0 := ⟨wG_t 385 (by decide +kernel) (by decide +kernel), wG_t 386 (by decide +kernel) (by decide +kernel), wG_t 10 (by decide +kernel) (by decide +kernel), wG_t 387 (by decide +kernel) (by decide +kernel), ⟨by decide, by decide, by decide +kernel⟩⟩
theorem mw_J0_length_8abf5 : MwV yJ0_length_8abf5 cJ0_length_8abf5 1 (some .int) 0 := ⟨wG_t 381 (by decide +kernel) (by decide +kernel), wG_t 382 (by decide +kernel) (by decide +kernel), wG_t 10 (by decide +kernel) (by decide +kernel), wG_t 383 (by decide +kernel) (by decide +kernel), ⟨by decide, by decide, by decide +kernel⟩⟩
theorem mw_J0_isLatin1_aae02 : MwV yJ0_isLatin1_aae02 cJ0_isLatin1_aae02 1 (some .boolean) 0 := ⟨wG_t 398 (by decide +kernel) (by decide +kernel), wG_t 399 (by decide +kernel) (by decide +kernel), wG_t 10 (by decide +kernel) (by decide +kernel), wG_t 400 (by decide +kernel) (by decide +kernel), ⟨by decide, by decide, by decide +kernel⟩⟩
theorem mw_J0_charAt_5068e : MwV yJ0_charAt_5068e cJ0_charAt_5068e 2 (some .char) 1 := ⟨wG_t 394 (by decide +kernel) (by decide +kernel), wG_t 395 (by decide +kernel) (by decide +kernel), wG_t 10 (by decide +kernel) (by decide +kernel), wG_t 396 (by decide +kernel) (by decide +kernel), ⟨by decide, by decide, by decide +kernel⟩⟩
theorem mw_J1_charAt_3b067 : MwS yJ1_charAt_3b067 cJ1_charAt_3b067 2 (some .char) 2 := ⟨wG_t 402 (by decide +kernel) (by decide +kernel), wG_t 17 (by decide +kernel) (by decide +kernel), wG_t 403 (by decide +kernel) (by decide +kernel), ⟨by decide, by decide, by decide +kernel⟩⟩
theorem mw_J0_checkIndex_df160 : MwS yJ0_checkIndex_df160 cJ0_checkIndex_df160 2 none 2 := ⟨wG_t 405 (by decide +kernel) (by decide +kernel), wG_t 10 (by decide +kernel) (by decide +kernel), wG_t 406 (by decide +kernel) (by decide +kernel), ⟨by decide, by decide, by decide +kernel⟩⟩
theorem mw_J3_checkIndex_8e157 : MwS yJ3_checkIndex_8e157 cJ3_checkIndex_8e157 3 (some .int) 3 := ⟨wG_t 410 (by decide +kernel) (by decide +kernel), wG_t 16 (by decide +kernel) (by decide +kernel), wG_t 411 (by decide +kernel) (by decide +kernel), ⟨by decide, by decide, by decide +kernel⟩⟩
theorem ml_J0_335 : Cond.methodLink RJ0 335 yJ0_coder_7d493 ∈ wG := wG_t 384 (by decide +kernel) (by decide +kernel)
theorem ml_J0_492 : Cond.methodLink RJ0 492 yJ0_isLatin1_aae02 ∈ wG := wG_t 397 (by decide +kernel) (by decide +kernel)
theorem ml_J0_495 : Cond.methodLink RJ0 495 yJ1_charAt_3b067 ∈ wG := wG_t 401 (by decide +kernel) (by decide +kernel)
theorem ml_J1_9 : Cond.methodLink RJ1 9 yJ0_checkIndex_df160 ∈ wG := wG_t 404 (by decide +kernel) (by decide +kernel)
theorem ml_J0_1059 : Cond.methodLink RJ0 1059 yJ3_checkIndex_8e157 ∈ wG := wG_t 409 (by decide +kernel) (by decide +kernel)
theorem ml_X5_100 : Cond.methodLink RX5 100 yJ0_length_8abf5 ∈ wG := wG_t 482 (by decide +kernel) (by decide +kernel)
theorem ml_X5_105 : Cond.methodLink RX5 105 yJ0_charAt_5068e ∈ wG := wG_t 483 (by decide +kernel) (by decide +kernel)
theorem fj_38 : Cond.fieldLink RJ0 38 "java/lang/String" "COMPACT_STRINGS" "Z" ∈ wG := wG_t 388 (by decide +kernel) (by decide +kernel)
theorem fj_9 : Cond.fieldLink RJ0 9 "java/lang/String" "value" "[B" ∈ wG := wG_t 776 (by decide +kernel) (by decide +kernel)
theorem fj_15 : Cond.fieldLink RJ0 15 "java/lang/String" "coder" "B" ∈ wG := wG_t 777 (by decide +kernel) (by decide +kernel)
theorem fj_1053 : Cond.fieldLink RJ0 1053 "jdk/internal/util/Preconditions" "SIOOBE_FORMATTER" "Ljava/util/function/BiFunction;" ∈ wG := wG_t 407 (by decide +kernel) (by decide +kernel)
theorem ldc_X5_49 {x : Xd} {A : Nat → Prop} {U : State} {H : Heap} (h : Ext x A U H) : vk_R RX5 49 "point" (x.1 0) U := h.2.2.1 0 (by decide)
theorem ldc_X5_58 {x : Xd} {A : Nat → Prop} {U : State} {H : Heap} (h : Ext x A U H) : vk_R RX5 58 "plain" (x.1 1) U := h.2.2.1 1 (by decide)
theorem ldc_X5_63 {x : Xd} {A : Nat → Prop} {U : State} {H : Heap} (h : Ext x A U H) : vk_R RX5 63 "told" (x.1 2) U := h.2.2.1 2 (by decide)
theorem ldc_X5_65 {x : Xd} {A : Nat → Prop} {U : State} {H : Heap} (h : Ext x A U H) : vk_R RX5 65 "blend" (x.1 3) U := h.2.2.1 3 (by decide)
theorem ldc_X5_91 {x : Xd} {A : Nat → Prop} {U : State} {H : Heap} (h : Ext x A U H) : vk_R RX5 91 "weight" (x.1 4) U := h.2.2.1 4 (by decide)
theorem ldc_L_67 {x : Xd} {A : Nat → Prop} {U : State} {H : Heap} (h : Ext x A U H) : vk_R RL 67 "" (x.1 5) U := h.2.2.1 5 (by decide)
theorem ldc_L_80 {x : Xd} {A : Nat → Prop} {U : State} {H : Heap} (h : Ext x A U H) : vk_R RL 80 "point " (x.1 6) U := h.2.2.1 6 (by decide)
theorem ldc_L_85 {x : Xd} {A : Nat → Prop} {U : State} {H : Heap} (h : Ext x A U H) : vk_R RL 85 " " (x.1 7) U := h.2.2.1 7 (by decide)
theorem ldc_L_87 {x : Xd} {A : Nat → Prop} {U : State} {H : Heap} (h : Ext x A U H) : vk_R RL 87 " weight " (x.1 8) U := h.2.2.1 8 (by decide)
theorem ldc_L_89 {x : Xd} {A : Nat → Prop} {U : State} {H : Heap} (h : Ext x A U H) : vk_R RL 89 ";" (x.1 9) U := h.2.2.1 9 (by decide)
theorem ldc_L_95 {x : Xd} {A : Nat → Prop} {U : State} {H : Heap} (h : Ext x A U H) : vk_R RL 95 "plain;" (x.1 10) U := h.2.2.1 10 (by decide)
theorem ldc_L_97 {x : Xd} {A : Nat → Prop} {U : State} {H : Heap} (h : Ext x A U H) : vk_R RL 97 "blend " (x.1 11) U := h.2.2.1 11 (by decide)
theorem ldc_L_99 {x : Xd} {A : Nat → Prop} {U : State} {H : Heap} (h : Ext x A U H) : vk_R RL 99 "told;" (x.1 12) U := h.2.2.1 12 (by decide)
theorem lit_len : ∀ i, i < 13 → (litB i).length < 256 := by decide +kernel
/-- the character of a literal as charAt gives it -/
def litC (i : Nat) (k : Int32) : Int32 := (Int32.toUInt32 ((litB i).getD k.toNatClampNeg 0 &&& 255) % 65536).toInt32
section JDKS
variable {p : Program} {l : Launch} {e : Env} {R : Room} {s : State} {m : MethodId} {args : Array Value} {below : List Frame} {meth : Method} {c : Code} {H : Heap} {locs : List Loc} {cells slots : Nat} {Q : State → Prop}
variable {D : va_G} {g : Nat → ClassId} {x : Xd} {A : Nat → Prop} {own : String} {cc : ByteArray} {nL : Nat} {ret0 : Option FieldType}
/-- a call on a text constant -/
theorem mcallE (X : Cx p s m args meth c own cc nL ret0 D g x A) {y : MethodName} {cy : ByteArray} {nLy fry loy n idx : Nat} {rety : Option FieldType} {i : Nat} {As rest st0 st1 : List Value} {ws : va_W} {r : Option Value}
    (hC : Cn D g x l y cy nLy rety fry loy (.ref (x.1 i) :: As) [] [] r) (hi : i < 13) (hy : y.cls = "java/lang/String") (hM : MwV y cy nLy rety n) (hlink : Cond.methodLink own idx y ∈ wG) (hR : fry + 1 ≤ R.frames ∧ 8 + (nLy + 11) + loy ≤ R.locals)
    (hP : va_P D vwCl ws H) (hD : va_D A ws) (hS : va_S A s.heap H locs)
    {pc : Nat} {ls : Array Slot} (hn : As.length = n) (hls : ls.size = nL) (hst : st0 = As.reverse ++ .ref (x.1 i) :: rest) (hrm : (rest.map fun v => v.category).sum ≤ 8) (hdg : decode cc pc = .ok (.invokevirtual idx, 3)) (hcs : cells + 0 ≤ R.cells ∧ slots + 0 ≤ R.slots)
    (hst1 : r.toList ++ rest = st1)
    (kk : ∀ (H1 : Heap) (locs1 : List Loc), va_P D vwCl ws H1 → va_D A ws → va_S A s.heap H1 locs1 → W p l e R s m args below meth c H1 locs1 cells slots Q (F0 m (pc + 3) ls st1)) : W p l e R s m args below meth c H locs cells slots Q (F0 m pc ls st0) := by
  obtain ⟨hx, hb, hml, -, -, hown, hts, hK, hA, hE⟩ := X
  have hEc : Ext x (va_A [] H.size) s H := (hE.kept (fun a h1 h2 => hS.2.1 a h1 h2)).narrow (va_free hD hS hA [] rfl)
  have hrc := vk_recv (i := 0) (hE.2.2.2.1 i hi) (by decide) hS
  rw [← hy] at hrc
  refine mbehind (a := args) (wc := []) (wc1 := []) (va_runV (As := As) (rest := rest) (n := n) (C := y.cls) ⟨hx, hb, hml, hown, hts⟩ (hC H.size) (cwV n hts (mwV_good hM hlink) rfl rfl rfl ⟨rfl, hM.2.2.2.2⟩ hR) ⟨fun a U g9 mk q => ?_, hrc, fun U hU hW => ⟨rfl, by rw [hU], fun k q h => by simp at h, va_K.moved hW.alike hK, ⟨fun i j p q h => by simp at h, fun k q h => by simp at h⟩, by rw [hU]; exact hEc.warm hW⟩⟩ rfl hn hls hst (lv_room hrm) hdg hcs) hA hP hD hS [] rfl rfl rfl hst1 kk
  obtain ⟨q1, q2, q3, q4, q5, q6⟩ := q
  exact ⟨q1, q2, q3, va_K.moved (u := U) (U := U.calling g9 mk a) (Vm.Alike.refl U.vm) q4, q5, Ext.same (s := U) (U := U.calling g9 mk a) rfl q6⟩
end JDKS
section JDKM
variable (D : va_G) (g : Nat → ClassId) (x : Xd) (l : Launch)
set_option maxHeartbeats 4000000 in
theorem kJ0_coder (i : Nat) (hi : i < 13) : Cn D g x l yJ0_coder_7d493 cJ0_coder_7d493 1 (some .byte) 0 0 [.ref (x.1 i)] [] [] (some (.int 0)) := by
  refine CnI (by decide +kernel) (Nat.le_of_ble_eq_true rfl) (fun p e s m args below meth c A Q ls X hD hP hS fin hl => ?_)
  obtain ⟨hx, hb, hml, -, -, hown, hts, hK, hA, hE⟩ := id X
  have hl : lv_has ls 1 [(0, .ref (x.1 i))] := hl
  refine va_gets hx hb hE.2.2.2.2.1 hS hown (hts _ fj_38) (fun _ h => h) dJ0_coder_7d493_0 ?_
  refine lv_if_eq (tgt := 13) hx hb dJ0_coder_7d493_3 (by decide) (fun h => absurd h (by decide)) (fun _ => ?_)
  refine lv_aload_n hx hb dJ0_coder_7d493_6 rfl (lv_at hl 0 rfl) ?_
  refine vk_getf hx hb ((hE.2.2.2.1 i hi).1 0 (by decide)).2.1 hS hown (hts _ fj_15) (fun _ h => h) dJ0_coder_7d493_7 ?_
  refine lv_goto (tgt := 14) hx hb dJ0_coder_7d493_10 (by decide) ?_
  exact fin _ _ _ _ rfl hP hS dJ0_coder_7d493_14
set_option maxHeartbeats 4000000 in
theorem kJ0_length (i : Nat) (hi : i < 13) : Cn D g x l yJ0_length_8abf5 cJ0_length_8abf5 1 (some .int) 1 40 [.ref (x.1 i)] [] [] (some (.int (nI (litB i).length))) := by
  refine CnI (by decide +kernel) (Nat.le_of_ble_eq_true rfl) (fun p e s m args below meth c A Q ls X hD hP hS fin hl => ?_)
  obtain ⟨hx, hb, hml, -, -, hown, hts, hK, hA, hE⟩ := id X
  have hl : lv_has ls 1 [(0, .ref (x.1 i))] := hl
  refine lv_aload_n hx hb dJ0_length_8abf5_0 rfl (lv_at hl 0 rfl) ?_
  refine vk_getf hx hb ((hE.2.2.2.1 i hi).1 0 (by decide)).2.2.1 hS hown (hts _ fj_9) (fun _ h => h) dJ0_length_8abf5_1 ?_
  refine va_tlen hx hb ((hE.2.2.2.1 i hi).1 0 (by decide)).2.2.2 hS (v := nI (litB i).length) rfl dJ0_length_8abf5_4 ?_
  refine lv_aload_n hx hb dJ0_length_8abf5_5 rfl (lv_at hl 0 rfl) ?_
  refine mcallE X (As := []) (rest := [.int (nI (litB i).length)]) (st1 := [.int 0, .int (nI (litB i).length)]) (kJ0_coder D g x l i hi) hi rfl mw_J0_coder_7d493 ml_J0_335 ⟨Nat.le_of_ble_eq_true rfl, Nat.le_of_ble_eq_true rfl⟩ hP hD hS rfl hl.1 rfl (Nat.le_of_ble_eq_true rfl) dJ0_length_8abf5_6 ⟨Nat.le_refl _, Nat.le_refl _⟩ rfl (fun H locs hP hD hS => ?_)
  refine lv_ishr hx hb dJ0_length_8abf5_9 ?_
  have e0 : nI (litB i).length >>> ((0 : Int32) &&& 31) = nI (litB i).length := Int32.toBitVec_inj.mp (by simp)
  rw [e0]
  exact fin _ _ _ _ rfl hP hS dJ0_length_8abf5_10
set_option maxHeartbeats 4000000 in
theorem kJ0_isLatin1 (i : Nat) (hi : i < 13) : Cn D g x l yJ0_isLatin1_aae02 cJ0_isLatin1_aae02 1 (some .boolean) 0 0 [.ref (x.1 i)] [] [] (some (.int 1)) := by
  refine CnI (by decide +kernel) (Nat.le_of_ble_eq_true rfl) (fun p e s m args below meth c A Q ls X hD hP hS fin hl => ?_)
  obtain ⟨hx, hb, hml, -, -, hown, hts, hK, hA, hE⟩ := id X
  have hl : lv_has ls 1 [(0, .ref (x.1 i))] := hl
  refine va_gets hx hb hE.2.2.2.2.1 hS hown (hts _ fj_38) (fun _ h => h) dJ0_isLatin1_aae02_0 ?_
  refine lv_if_eq (tgt := 17) hx hb dJ0_isLatin1_aae02_3 (by decide) (fun h => absurd h (by decide)) (fun _ => ?_)
  refine lv_aload_n hx hb dJ0_isLatin1_aae02_6 rfl (lv_at hl 0 rfl) ?_
  refine vk_getf hx hb ((hE.2.2.2.1 i hi).1 0 (by decide)).2.1 hS hown (hts _ fj_15) (fun _ h => h) dJ0_isLatin1_aae02_7 ?_
  refine lv_if_ne (tgt := 17) hx hb dJ0_isLatin1_aae02_10 (by decide) (fun h => absurd rfl h) (fun _ => ?_)
  refine lv_iconst (v := 1) hx hb dJ0_isLatin1_aae02_13 (by decide) ?_
  refine lv_goto (tgt := 18) hx hb dJ0_isLatin1_aae02_14 (by decide) ?_
  exact fin _ _ _ _ (nar_z (Or.inr rfl)) hP hS dJ0_isLatin1_aae02_18
set_option maxHeartbeats 4000000 in
theorem kJ3_checkIndex (a b : Int32) (v : Value) (hv : v.category = 1) (h0 : ¬ a < 0) (h1 : a < b) : Cn D g x l yJ3_checkIndex_8e157 cJ3_checkIndex_8e157 3 (some .int) 0 0 [.int a, .int b, v] [] [] (some (.int a)) := by
  refine CnI (by decide +kernel) (by rcases v <;> first | exact Nat.le_of_ble_eq_true rfl | cases hv) (fun p e s m args below meth c A Q ls X hD hP hS fin hl => ?_)
  obtain ⟨hx, hb, hml, -, -, hown, hts, hK, hA, hE⟩ := id X
  have hl : lv_has ls 3 [(0, .int a), (1, .int b), (2, v)] := hl
  refine lv_iload_n hx hb dJ3_checkIndex_8e157_0 rfl (lv_at hl 0 rfl) ?_
  refine lv_if_lt (tgt := 9) hx hb dJ3_checkIndex_8e157_1 (by decide) (fun h => absurd h h0) (fun _ => ?_)
  refine lv_iload_n hx hb dJ3_checkIndex_8e157_4 rfl (lv_at hl 0 rfl) ?_
  refine lv_iload_n hx hb dJ3_checkIndex_8e157_5 rfl (lv_at hl 1 rfl) ?_
  refine lv_icmp_lt (tgt := 16) hx hb dJ3_checkIndex_8e157_6 (by decide) (fun _ => ?_) (fun h => absurd h1 h)
  refine lv_iload_n hx hb dJ3_checkIndex_8e157_16 rfl (lv_at hl 0 rfl) ?_
  exact fin _ _ _ _ rfl hP hS dJ3_checkIndex_8e157_17
set_option maxHeartbeats 4000000 in
theorem kJ0_checkIndex (a b : Int32) (h0 : ¬ a < 0) (h1 : a < b) : Cn D g x l yJ0_checkIndex_df160 cJ0_checkIndex_df160 2 none 1 60 [.int a, .int b] [] [] none := by
  refine CnV (by decide +kernel) (Nat.le_of_ble_eq_true rfl) (fun p e s m args below meth c A Q ls X hD hP hS fin hl => ?_)
  obtain ⟨hx, hb, hml, -, -, hown, hts, hK, hA, hE⟩ := id X
  have hl : lv_has ls 2 [(0, .int a), (1, .int b)] := hl
  refine lv_iload_n hx hb dJ0_checkIndex_df160_0 rfl (lv_at hl 0 rfl) ?_
  refine lv_iload_n hx hb dJ0_checkIndex_df160_1 rfl (lv_at hl 1 rfl) ?_
  obtain ⟨v, hv, hZ⟩ : ∃ v : Value, v.category = 1 ∧ va_Z "jdk/internal/util/Preconditions" "SIOOBE_FORMATTER" "Ljava/util/function/BiFunction;" v A s s.heap := by
    rcases hE.2.2.2.2.2.1 with h | ⟨t, h⟩
    · exact ⟨_, rfl, h⟩
    · exact ⟨_, rfl, h⟩
  refine va_gets hx hb hZ hS hown (hts _ fj_1053) (fun _ h => h) dJ0_checkIndex_df160_2 ?_
  refine mcallS X (As := [.int a, .int b, v]) (rest := []) (wc := []) (wc1 := []) (ws1 := []) (st1 := [.int a]) (kJ3_checkIndex D g x l a b v hv h0 h1) mw_J3_checkIndex_8e157 ml_J0_1059 ⟨Nat.le_of_ble_eq_true rfl, Nat.le_of_ble_eq_true rfl⟩ hP hD hS [] rfl rfl rfl rfl hl.1 rfl (Nat.le_of_ble_eq_true rfl) dJ0_checkIndex_df160_5 ⟨Nat.le_refl _, Nat.le_refl _⟩ rfl rfl (fun H locs hP hD hS => ?_)
  refine lv_pop hx hb dJ0_checkIndex_df160_8 rfl ?_
  exact fin _ _ _ _ hP hS dJ0_checkIndex_df160_9
set_option maxHeartbeats 4000000 in
theorem kJ1_charAt (i : Nat) (hi : i < 13) (k : Int32) (hk : ¬ (k < 0 ∨ (litB i).length ≤ k.toNatClampNeg)) : Cn D g x l yJ1_charAt_3b067 cJ1_charAt_3b067 2 (some .char) 2 120 [.ref (x.2.1 i), .int k] [] [] (some (.int (litC i k))) := by
  have h0 : ¬ k < 0 := fun h => hk (Or.inl h)
  have h1 : k < nI (litB i).length := by
    obtain ⟨j, hj, rfl⟩ := nI_of h0
    have hlen := lit_len i hi
    have : j < (litB i).length := by
      refine Nat.lt_of_not_le (fun h => hk (Or.inr ?_))
      rw [nI_clamp hj]; exact h
    exact nI_lt this (by omega)
  refine CnI (by decide +kernel) (Nat.le_of_ble_eq_true rfl) (fun p e s m args below meth c A Q ls X hD hP hS fin hl => ?_)
  obtain ⟨hx, hb, hml, -, -, hown, hts, hK, hA, hE⟩ := id X
  have hl : lv_has ls 2 [(0, .ref (x.2.1 i)), (1, .int k)] := hl
  have hT := ((hE.2.2.2.1 i hi).1 0 (by decide)).2.2.2
  refine lv_iload_n hx hb dJ1_charAt_3b067_0 rfl (lv_at hl 1 rfl) ?_
  refine lv_aload_n hx hb dJ1_charAt_3b067_1 rfl (lv_at hl 0 rfl) ?_
  refine va_tlen hx hb hT hS (v := nI (litB i).length) rfl dJ1_charAt_3b067_2 ?_
  refine mcallS X (As := [.int k, .int (nI (litB i).length)]) (rest := []) (wc := []) (wc1 := []) (ws1 := []) (st1 := []) (kJ0_checkIndex D g x l k (nI (litB i).length) h0 h1) mw_J0_checkIndex_df160 ml_J1_9 ⟨Nat.le_of_ble_eq_true rfl, Nat.le_of_ble_eq_true rfl⟩ hP hD hS [] rfl rfl rfl rfl hl.1 rfl (Nat.le_of_ble_eq_true rfl) dJ1_charAt_3b067_3 ⟨Nat.le_refl _, Nat.le_refl _⟩ rfl rfl (fun H locs hP hD hS => ?_)
  refine lv_aload_n hx hb dJ1_charAt_3b067_6 rfl (lv_at hl 0 rfl) ?_
  refine lv_iload_n hx hb dJ1_charAt_3b067_7 rfl (lv_at hl 1 rfl) ?_
  refine va_tb hx hb hT hS (i := k) hk (v := .int ((litB i).getD k.toNatClampNeg 0)) rfl dJ1_charAt_3b067_8 ?_
  refine lv_sipush (v := 255) hx hb dJ1_charAt_3b067_9 (by decide) ?_
  refine lv_iand hx hb dJ1_charAt_3b067_12 ?_
  refine lv_i2c (v := litC i k) hx hb dJ1_charAt_3b067_13 rfl ?_
  exact fin _ _ _ _ (pk_nc _) hP hS dJ1_charAt_3b067_14
set_option maxHeartbeats 4000000 in
theorem kJ0_charAt (i : Nat) (hi : i < 13) (k : Int32) (hk : ¬ (k < 0 ∨ (litB i).length ≤ k.toNatClampNeg)) : Cn D g x l yJ0_charAt_5068e cJ0_charAt_5068e 2 (some .char) 3 180 [.ref (x.1 i), .int k] [] [] (some (.int (litC i k))) := by
  refine CnI (by decide +kernel) (Nat.le_of_ble_eq_true rfl) (fun p e s m args below meth c A Q ls X hD hP hS fin hl => ?_)
  obtain ⟨hx, hb, hml, -, -, hown, hts, hK, hA, hE⟩ := id X
  have hl : lv_has ls 2 [(0, .ref (x.1 i)), (1, .int k)] := hl
  refine lv_aload_n hx hb dJ0_charAt_5068e_0 rfl (lv_at hl 0 rfl) ?_
  refine mcallE X (As := []) (rest := []) (st1 := [.int 1]) (kJ0_isLatin1 D g x l i hi) hi rfl mw_J0_isLatin1_aae02 ml_J0_492 ⟨Nat.le_of_ble_eq_true rfl, Nat.le_of_ble_eq_true rfl⟩ hP hD hS rfl hl.1 rfl (Nat.le_of_ble_eq_true rfl) dJ0_charAt_5068e_1 ⟨Nat.le_refl _, Nat.le_refl _⟩ rfl (fun H locs hP hD hS => ?_)
  refine lv_if_eq (tgt := 16) hx hb dJ0_charAt_5068e_4 (by decide) (fun h => absurd h (by decide)) (fun _ => ?_)
  refine lv_aload_n hx hb dJ0_charAt_5068e_7 rfl (lv_at hl 0 rfl) ?_
  refine vk_getf hx hb ((hE.2.2.2.1 i hi).1 0 (by decide)).2.2.1 hS hown (hts _ fj_9) (fun _ h => h) dJ0_charAt_5068e_8 ?_
  refine lv_iload_n hx hb dJ0_charAt_5068e_11 rfl (lv_at hl 1 rfl) ?_
  refine mcallS X (As := [.ref (x.2.1 i), .int k]) (rest := []) (wc := []) (wc1 := []) (ws1 := []) (st1 := [.int (litC i k)]) (kJ1_charAt D g x l i hi k hk) mw_J1_charAt_3b067 ml_J0_495 ⟨Nat.le_of_ble_eq_true rfl, Nat.le_of_ble_eq_true rfl⟩ hP hD hS [] rfl rfl rfl rfl hl.1 rfl (Nat.le_of_ble_eq_true rfl) dJ0_charAt_5068e_12 ⟨Nat.le_refl _, Nat.le_refl _⟩ rfl rfl (fun H locs hP hD hS => ?_)
  exact fin _ _ _ _ (pk_nc _) hP hS dJ0_charAt_5068e_15
end JDKM
