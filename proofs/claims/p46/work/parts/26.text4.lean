/-! New builders; a builder's text as a String. -/
section GFIN
variable {p : Program} {l : Launch} {e : Env} {R : Room} {s : State} {m : MethodId} {args : Array Value} {below : List Frame} {meth : Method} {c : Code} {H : Heap} {locs : List Loc} {cells slots : Nat} {Q : State → Prop}
variable {D : va_G} {g : Nat → ClassId} {x : Xd} {A : Nat → Prop} {own : String} {cc : ByteArray} {nL : Nat} {ret0 : Option FieldType} {ws ws1 : va_W} {pc : Nat} {ls : Array Slot} {rest : List Value}
theorem cputB (X : Cx p s m args meth c own cc nL ret0 D g x A) (hin : meth.name = "<init>") {idx ci k : Nat} (hF : Fl own idx ci k true) (hP : va_P D vwCl ws H) (hD : va_D A ws) (hS : va_S A s.heap H locs) (q0 : Nat) {a : Nat} {fs : List Value} (he : ws[q0]? = some (a, .inr (ci, fs))) {q : Int32} {v0 : Value} (hv : fs[k]? = some v0) (ht : ∃ z, vwCl[ci]? = some z ∧ (z.2.1 k).1 = own ∧ ∃ ty, parseFieldDescriptor (z.2.1 k).2.2.1 = some ty ∧ narrow ty (.int q) = .int q ∧ Jvm.fits ty (.int q) = true) (hdg : decode cc pc = .ok (.putfield idx, 3)) (hw : ws.set q0 (a, .inr (ci, fs.set k (.int q))) = ws1)
    (kk : ∀ (H1 : Heap) (locs1 : List Loc), va_P D vwCl ws1 H1 → va_D A ws1 → va_S A s.heap H1 locs1 → W p l e R s m args below meth c H1 locs1 cells slots Q (F0 m (pc + 3) ls rest)) : W p l e R s m args below meth c H locs cells slots Q (F0 m pc ls (.int q :: .ref a :: rest)) := by
  obtain ⟨hx, hb, hml, -, -, hown, hts, hK, hA, hE⟩ := X
  subst hw
  have hlen : k < fs.length := (List.getElem?_eq_some_iff.mp hv).1
  obtain ⟨C, T, N, ty0, hci, hk, hin9, hl, hty, hnm, hfin⟩ := hF
  obtain ⟨z, hz1, hz2, ty, hd, hn, hf⟩ := ht
  cases hci.symm.trans hz1
  rcases hl with hl | ⟨host, hl⟩
  · exact va_putF hx hb hts hin9 ty0 hty hnm hown hK hP hD hS q0 he hci k hk (hts _ hl) (fun _ h => h) hfin hin hz2 hd hn hf hlen hdg kk
  · exfalso
    revert hl
    have h9 : ∀ w ∈ nwF, w.1 ≠ w.2.2.1 := by decide +kernel
    exact fun hl => h9 _ hl hz2.symm
end GFIN
section TXS
variable (D : va_G) (g : Nat → ClassId) (x : Xd) (l : Launch)
set_option maxHeartbeats 4000000 in
set_option maxRecDepth 100000 in
theorem kJ5_init (q : Nat) : CnG D g x l yJ5_init_d00df cJ5_init_d00df 2 none 1 40 1 16 [.ref q, .int 16] [(q, .inr (8, [.null, .int 0, .int 0, .int 0]))] (fun z w => z = none ∧ ∃ r, w = sbW g q r 0 16 (fun _ => 0)) := by
  refine CnG.v (by decide +kernel) (Nat.le_of_ble_eq_true rfl) (fun p e s m args below meth c9 A Q ls X hnm hD hP hS fin hl => ?_)
  obtain ⟨hx, hb, hml, -, -, hown, hts, hK, hA, hE⟩ := id X
  have hl : lv_has ls 2 [(0, .ref q), (1, .int 16)] := hl
  refine lv_aload_n hx hb dJ5_init_d00df_0 rfl (lv_at hl 0 rfl) ?_
  refine cobj X ob_J5_3 hl.1 dJ5_init_d00df_1 (Nat.le_of_ble_eq_true rfl) (Nat.le_of_ble_eq_true rfl) ?_
  refine va_gets hx hb hE.2.2.2.2.1 hS hown (hts _ fs_J5_18) (fun _ h => h) dJ5_init_d00df_4 ?_
  refine lv_if_eq (tgt := 25) hx hb dJ5_init_d00df_7 (by decide) (fun h => absurd h (by decide)) (fun _ => ?_)
  refine lv_aload_n hx hb dJ5_init_d00df_10 rfl (lv_at hl 0 rfl) ?_
  refine lv_iload_n hx hb dJ5_init_d00df_11 rfl (lv_at hl 1 rfl) ?_
  refine cnewA X 3 rfl rfl (fun C h => by cases h) ac_3 hP hD hS (n := 16) (N' := 16) (a0 := (16, .inl (fun _ => 0))) (fun _ => rfl) (by decide) (by decide +kernel) (Nat.le_of_ble_eq_true rfl) (Nat.le_of_ble_eq_true rfl) (Nat.le_of_ble_eq_true rfl) dJ5_init_d00df_12 (fun r H hP hD hS => ?_)
  have hP : va_P D vwCl [(q, .inr (8, [.null, .int 0, .int 0, .int 0])), (r, .inl (g 3, 16, .inl (fun _ => 0)))] H := hP
  have hD : va_D A [(q, .inr (8, [.null, .int 0, .int 0, .int 0])), (r, .inl (g 3, 16, .inl (fun _ => 0)))] := hD
  refine gputR X fl_J5_15 (ws1 := [(q, .inr (8, [.ref r, .int 0, .int 0, .int 0])), (r, .inl (g 3, 16, .inl (fun _ => 0)))]) hP hD hS 0 rfl rfl ⟨_, rfl, .array .byte, by decide +kernel, rfl, rfl⟩ dJ5_init_d00df_14 rfl (fun H locs hP hD hS => ?_)
  refine lv_aload_n hx hb dJ5_init_d00df_17 rfl (lv_at hl 0 rfl) ?_
  refine lv_iconst (v := 0) hx hb dJ5_init_d00df_18 (by decide) ?_
  refine gputB X fl_J5_22 (ws1 := sbW g q r 0 16 (fun _ => 0)) hP hD hS 0 rfl rfl ⟨_, rfl, .byte, by decide +kernel, by decide +kernel, by decide +kernel⟩ dJ5_init_d00df_19 rfl (fun H locs hP hD hS => ?_)
  refine lv_goto (tgt := 38) hx hb dJ5_init_d00df_22 (by decide) ?_
  refine W.widen (k := 1) (n := 16) (Nat.le_of_ble_eq_true rfl) (Nat.le_of_ble_eq_true rfl) ?_
  exact fin none _ _ _ _ _ ⟨rfl, r, rfl⟩ (fun z h => by cases h) (by constructor <;> (intro; rfl)) hP hD hS dJ5_init_d00df_38
set_option maxHeartbeats 4000000 in
set_option maxRecDepth 100000 in
theorem kJ4_init (q : Nat) : CnG D g x l yJ4_init_da8c8 cJ4_init_da8c8 1 none 2 80 1 16 [.ref q] [(q, .inr (8, [.null, .int 0, .int 0, .int 0]))] (fun z w => z = none ∧ ∃ r, w = sbW g q r 0 16 (fun _ => 0)) := by
  refine CnG.v (by decide +kernel) (Nat.le_of_ble_eq_true rfl) (fun p e s m args below meth c9 A Q ls X hnm hD hP hS fin hl => ?_)
  obtain ⟨hx, hb, hml, -, -, hown, hts, hK, hA, hE⟩ := id X
  have hl : lv_has ls 1 [(0, .ref q)] := hl
  refine lv_aload_n hx hb dJ4_init_da8c8_0 rfl (lv_at hl 0 rfl) ?_
  refine lv_bipush (v := 16) hx hb dJ4_init_da8c8_1 (by decide +kernel) ?_
  refine gcallI X (As := [.int 16]) (rest := []) (wr := []) (kJ5_init D g x l q) mw_J5_init_d00df ml_J4_1 ⟨(Nat.le_of_ble_eq_true rfl), (Nat.le_of_ble_eq_true rfl)⟩ [0] (by decide +kernel) rfl hP hD hS rfl hl.1 rfl (Nat.le_of_ble_eq_true rfl) dJ4_init_da8c8_3 ⟨(Nat.le_of_ble_eq_true rfl), (Nat.le_of_ble_eq_true rfl)⟩ (fun z w1 H locs hp hP hD hS => ?_)
  obtain ⟨rfl, hp⟩ := hp
  refine W.widen (k := 1) (n := 16) (Nat.le_of_ble_eq_true rfl) (Nat.le_of_ble_eq_true rfl) ?_
  exact fin none w1 _ _ _ _ ⟨rfl, hp⟩ (fun z h => by cases h) (by constructor <;> (intro; rfl)) hP hD hS dJ4_init_da8c8_6
set_option maxHeartbeats 4000000 in
set_option maxRecDepth 100000 in
theorem kJ7_checkLength (n : Nat) (hn : n < 65536) : Cn D g x l yJ7_checkLength_df160 cJ7_checkLength_df160 2 none 0 0 [.int 0, .int (nI n)] [] [] none := by
  refine CnV (by decide +kernel) (Nat.le_of_ble_eq_true rfl) (fun p e s m args below meth c9 A Q ls X hD hP hS fin hl => ?_)
  obtain ⟨hx, hb, hml, -, -, hown, hts, hK, hA, hE⟩ := id X
  have hl : lv_has ls 2 [(0, .int 0), (1, .int (nI n))] := hl
  refine lv_iload_n hx hb dJ7_checkLength_df160_0 rfl (lv_at hl 1 rfl) ?_
  refine lv_iload_n hx hb dJ7_checkLength_df160_1 rfl (lv_at hl 0 rfl) ?_
  refine lv_icmp_ge (tgt := 37) hx hb dJ7_checkLength_df160_2 (by decide) (fun _ => ?_) (fun h => absurd (nI_pos' (by omega)) h)
  exact fin _ _ _ _ hP hS dJ7_checkLength_df160_37
set_option maxHeartbeats 4000000 in
set_option maxRecDepth 100000 in
theorem kJ7_rangeB (r cap n : Nat) (F : Nat → Int32) (hF : sb_Fit F) (hn : n ≤ cap) (hc : cap < 1024) : CnG D g x l yJ7_copyOfRangeByte_39247 cJ7_copyOfRangeByte_39247 5 (some (.array .byte)) 1 60 1 1024 [.ref r, .int 0, .int (nI n)] [(r, .inl (g 3, cap, .inl F))] (fun z w => ∃ r1, z = some (.ref r1) ∧ w = [(r, .inl (g 3, cap, .inl F)), (r1, .inl (g 3, n, .inl (va_cpy F (fun _ => 0) 0 0 n)))]) := by
  refine CnG.a (Or.inr ⟨_, rfl⟩) (by decide +kernel) (Nat.le_of_ble_eq_true rfl) (fun p e s m args below meth c9 A Q ls X hnm hD hP hS fin hl => ?_)
  obtain ⟨hx, hb, hml, -, -, hown, hts, hK, hA, hE⟩ := id X
  have hl : lv_has ls 5 [(0, .ref r), (1, .int 0), (2, .int (nI n))] := hl
  refine lv_iload_n hx hb dJ7_copyOfRangeByte_39247_0 rfl (lv_at hl 1 rfl) ?_
  refine lv_iload_n hx hb dJ7_copyOfRangeByte_39247_1 rfl (lv_at hl 2 rfl) ?_
  refine mcallS X (As := [.int 0, .int (nI n)]) (rest := []) (wc := []) (wc1 := []) (ws1 := [(r, .inl (g 3, cap, .inl F))]) (st1 := []) (kJ7_checkLength D g x l n (by omega)) mw_J7_checkLength_df160 ml_J7_343 ⟨(Nat.le_of_ble_eq_true rfl), (Nat.le_of_ble_eq_true rfl)⟩ hP hD hS [] rfl rfl rfl rfl hl.1 rfl (Nat.le_of_ble_eq_true rfl) dJ7_copyOfRangeByte_39247_2 ⟨Nat.zero_le _, Nat.zero_le _⟩ rfl rfl (fun H locs hP hD hS => ?_)
  refine lv_iload_n hx hb dJ7_copyOfRangeByte_39247_5 rfl (lv_at hl 2 rfl) ?_
  refine lv_iload_n hx hb dJ7_copyOfRangeByte_39247_6 rfl (lv_at hl 1 rfl) ?_
  refine lv_isub hx hb dJ7_copyOfRangeByte_39247_7 ?_
  rw [Int32.sub_zero]
  refine lv_istore_n (lv' := [(3, .int (nI n)), (0, .ref r), (1, .int 0), (2, .int (nI n))]) hx hb dJ7_copyOfRangeByte_39247_8 rfl hl (by decide) rfl (fun ls hl => ?_)
  refine lv_iload_n hx hb dJ7_copyOfRangeByte_39247_9 rfl (lv_at hl 0 rfl) ?_
  refine cnewA X 3 rfl rfl (fun C h => by cases h) ac_3 hP hD hS (n := nI n) (N' := n) (a0 := (n, .inl (fun _ => 0))) (fun _ => rfl) (nI_pos (by omega)) (nI_clamp (by omega)) (by show n * 1 ≤ 536870912; omega) (Nat.le_of_ble_eq_true rfl) (by show 0 + n ≤ 1024; omega) dJ7_copyOfRangeByte_39247_10 (fun r1 H hP hD hS => ?_)
  have hP : va_P D vwCl [(r, .inl (g 3, cap, .inl F)), (r1, .inl (g 3, n, .inl (fun _ => 0)))] H := hP
  have hD : va_D A [(r, .inl (g 3, cap, .inl F)), (r1, .inl (g 3, n, .inl (fun _ => 0)))] := hD
  refine W.widen (k := 1) (n := 1024) (Nat.le_of_ble_eq_true rfl) (by omega) ?_
  refine lv_astore (lv' := [(4, .ref r1), (3, .int (nI n)), (0, .ref r), (1, .int 0), (2, .int (nI n))]) hx hb dJ7_copyOfRangeByte_39247_12 hl (by decide) rfl (fun ls hl => ?_)
  refine lv_aload_n hx hb dJ7_copyOfRangeByte_39247_14 rfl (lv_at hl 2 rfl) ?_
  refine lv_iload_n hx hb dJ7_copyOfRangeByte_39247_15 rfl (lv_at hl 3 rfl) ?_
  refine lv_aload hx hb dJ7_copyOfRangeByte_39247_16 (lv_at hl 0 rfl) ?_
  refine lv_iconst (v := 0) hx hb dJ7_copyOfRangeByte_39247_18 (by decide) ?_
  refine lv_aload_n hx hb dJ7_copyOfRangeByte_39247_19 rfl (lv_at hl 2 rfl) ?_
  refine va_alen hx hb hK hP 0 3 rfl rfl (v := nI cap) rfl dJ7_copyOfRangeByte_39247_20 ?_
  refine lv_iload_n hx hb dJ7_copyOfRangeByte_39247_21 rfl (lv_at hl 3 rfl) ?_
  refine lv_isub hx hb dJ7_copyOfRangeByte_39247_22 ?_
  rw [Int32.sub_zero]
  refine lv_iload_n hx hb dJ7_copyOfRangeByte_39247_23 rfl (lv_at hl 1 rfl) ?_
  refine gminC X ml_J7_304 hl.1 (Nat.le_of_ble_eq_true rfl) (Nat.le_of_ble_eq_true rfl) ⟨Nat.le_refl _, Nat.le_refl _⟩ dJ7_copyOfRangeByte_39247_24 ?_
  rw [mmini_n (by omega) (by omega), Nat.min_eq_right (by omega)]
  refine va_copyi hx hb (hml.trans hl.1.symm) hown (hts _ ml_J7_150) (hts _ ac_w.1) (hts _ ac_w.2.1) (hts _ ac_w.2.2) hK hP hD hS 0 1 3 3 (f := F) (g := fun _ => 0) rfl rfl rfl rfl (by decide) (by decide) (by decide) (nI_pos (by omega)) (by rw [sb_cl0, nI_clamp (by omega)]; omega) (by rw [sb_cl0, nI_clamp (by omega)]; omega) (fun j hj => hF _) (Nat.le_of_ble_eq_true rfl) (Nat.le_of_ble_eq_true rfl) dJ7_copyOfRangeByte_39247_27 (fun H locs hP hD hS => ?_)
  rw [sb_cl0, nI_clamp (n := n) (by omega)] at hP hD
  refine lv_aload hx hb dJ7_copyOfRangeByte_39247_30 (lv_at hl 0 rfl) ?_
  exact fin (some (.ref r1)) _ _ _ _ _ ⟨r1, rfl, rfl⟩ (fun z h => by cases h; exact ⟨_, rfl⟩) (by constructor <;> (intro h; cases h)) hP hD hS dJ7_copyOfRangeByte_39247_32
set_option maxHeartbeats 4000000 in
set_option maxRecDepth 100000 in
theorem kJ7_range (r cap n : Nat) (L : List Nat) (F : Nat → Int32) (hF : Tx L F) (hL : n = L.length) (hn : n ≤ cap) (hc : cap < 1024) : CnG D g x l yJ7_copyOfRange_39247 cJ7_copyOfRange_39247 3 (some (.array .byte)) 2 120 1 1024 [.ref r, .int 0, .int (nI n)] [(r, .inl (g 3, cap, .inl F))] (fun z w => ∃ r1 F1, z = some (.ref r1) ∧ w = [(r, .inl (g 3, cap, .inl F)), (r1, .inl (g 3, n, .inl F1))] ∧ Tx L F1) := by
  refine CnG.a (Or.inr ⟨_, rfl⟩) (by decide +kernel) (Nat.le_of_ble_eq_true rfl) (fun p e s m args below meth c9 A Q ls X hnm hD hP hS fin hl => ?_)
  obtain ⟨hx, hb, hml, -, -, hown, hts, hK, hA, hE⟩ := id X
  have hl : lv_has ls 3 [(0, .ref r), (1, .int 0), (2, .int (nI n))] := hl
  refine lv_iload_n hx hb dJ7_copyOfRange_39247_0 rfl (lv_at hl 1 rfl) ?_
  refine lv_if_ne (tgt := 10) hx hb dJ7_copyOfRange_39247_1 (by decide) (fun h => absurd rfl h) (fun _ => ?_)
  refine lv_iload_n hx hb dJ7_copyOfRange_39247_4 rfl (lv_at hl 2 rfl) ?_
  refine lv_aload_n hx hb dJ7_copyOfRange_39247_5 rfl (lv_at hl 0 rfl) ?_
  refine va_alen hx hb hK hP 0 3 rfl rfl (v := nI cap) rfl dJ7_copyOfRange_39247_6 ?_
  refine lv_icmp_eq (tgt := 17) hx hb dJ7_copyOfRange_39247_7 (by decide) (fun h => ?_) (fun _ => ?_)
  · have h : n = cap := by
      have := congrArg Int32.toInt h
      rw [nI_toInt (by omega), nI_toInt (by omega)] at this
      omega
    refine lv_aload_n hx hb dJ7_copyOfRange_39247_17 rfl (lv_at hl 0 rfl) ?_
    have hnm3 : s.vm.findClass "[B" = some (g 3) := va_nm_byte (hK.2 3 _ rfl).2
    refine va_clone hx hb (hml.trans hl.1.symm) hown (hts _ cn_w.1) (hts _ cn_w.2.1) (hts _ cn_w.2.2.1) (hts _ cn_w.2.2.2.1) (hts _ cn_w.2.2.2.2.1) hE.2.2.2.2.2.2.2.2.2.2.2.2.1 hK hP hD hS hA 0 3 (x := (cap, .inl F)) rfl rfl hnm3 (va_fit (ty := .byte) (fun i hi => hF.1 i)) (Nat.le_of_ble_eq_true rfl) (Nat.le_of_ble_eq_true rfl) (Nat.le_of_ble_eq_true rfl) (by show 0 + cap ≤ 1024; omega) dJ7_copyOfRange_39247_18 (fun r1 H hK9 hP hD hS => ?_)
    have hP : va_P D vwCl [(r, .inl (g 3, cap, .inl F)), (r1, .inl (g 3, cap, .inl F))] H := hP
    have hD : va_D A [(r, .inl (g 3, cap, .inl F)), (r1, .inl (g 3, cap, .inl F))] := hD
    refine va_castA hx hb hown (hts _ cn_w.2.2.2.2.2) hP 1 (cA := g 3) (x := (cap, .inl F)) rfl hnm3 dJ7_copyOfRange_39247_21 ?_
    refine W.widen (k := 1) (n := 1024) (Nat.le_of_ble_eq_true rfl) (by show 0 + cap ≤ 1024; omega) ?_
    exact fin (some (.ref r1)) _ _ _ _ _ ⟨r1, F, rfl, by rw [h], hF⟩ (fun z h => by cases h; exact ⟨_, rfl⟩) (by constructor <;> (intro h; cases h)) hP hD hS dJ7_copyOfRange_39247_24
  · refine lv_aload_n hx hb dJ7_copyOfRange_39247_10 rfl (lv_at hl 0 rfl) ?_
    refine lv_iload_n hx hb dJ7_copyOfRange_39247_11 rfl (lv_at hl 1 rfl) ?_
    refine lv_iload_n hx hb dJ7_copyOfRange_39247_12 rfl (lv_at hl 2 rfl) ?_
    refine gcallS X (As := [.ref r, .int 0, .int (nI n)]) (rest := []) (wr := []) (kJ7_rangeB D g x l r cap n F hF.1 hn hc) mw_J7_copyOfRangeByte_39247 ml_J7_339 ⟨(Nat.le_of_ble_eq_true rfl), (Nat.le_of_ble_eq_true rfl)⟩ [0] (by decide +kernel) rfl hP hD hS rfl hl.1 rfl (Nat.le_of_ble_eq_true rfl) dJ7_copyOfRange_39247_13 ⟨(Nat.le_of_ble_eq_true rfl), (Nat.le_of_ble_eq_true rfl)⟩ (fun z w1 H locs hp hP hD hS => ?_)
    obtain ⟨r1, rfl, rfl⟩ := hp
    refine W.widen (k := 1) (n := 1024) (Nat.le_of_ble_eq_true rfl) (Nat.le_of_ble_eq_true rfl) ?_
    exact fin (some (.ref r1)) _ _ _ _ _ ⟨r1, _, rfl, rfl, hF.keep (sb_fitC hF.1 sb_fit0) (fun i hi => sb_cpy0 (by omega))⟩ (fun z h => by cases h; exact ⟨_, rfl⟩) (by constructor <;> (intro h; cases h)) hP hD hS dJ7_copyOfRange_39247_16
set_option maxHeartbeats 4000000 in
set_option maxRecDepth 100000 in
theorem kJ5_length (q r n : Nat) : Cn D g x l yJ5_length_8abf5 cJ5_length_8abf5 1 (some .int) 0 0 [.ref q] [(q, .inr (8, [.ref r, .int 0, .int 0, .int (nI n)]))] [(q, .inr (8, [.ref r, .int 0, .int 0, .int (nI n)]))] (some (.int (nI n))) := by
  refine CnI (by decide +kernel) (Nat.le_of_ble_eq_true rfl) (fun p e s m args below meth c9 A Q ls X hD hP hS fin hl => ?_)
  obtain ⟨hx, hb, hml, -, -, hown, hts, hK, hA, hE⟩ := id X
  have hl : lv_has ls 1 [(0, .ref q)] := hl
  refine lv_aload_n hx hb dJ5_length_8abf5_0 rfl (lv_at hl 0 rfl) ?_
  refine mget X fl_J5_79 hP 0 rfl rfl dJ5_length_8abf5_1 ?_
  exact fin _ _ _ _ rfl hP hS dJ5_length_8abf5_4
set_option maxHeartbeats 4000000 in
set_option maxRecDepth 100000 in
theorem kJ4_length (q r n : Nat) : Cn D g x l yJ4_length_8abf5 cJ4_length_8abf5 1 (some .int) 1 40 [.ref q] [(q, .inr (8, [.ref r, .int 0, .int 0, .int (nI n)]))] [(q, .inr (8, [.ref r, .int 0, .int 0, .int (nI n)]))] (some (.int (nI n))) := by
  refine CnI (by decide +kernel) (Nat.le_of_ble_eq_true rfl) (fun p e s m args below meth c9 A Q ls X hD hP hS fin hl => ?_)
  obtain ⟨hx, hb, hml, -, -, hown, hts, hK, hA, hE⟩ := id X
  have hl : lv_has ls 1 [(0, .ref q)] := hl
  refine lv_aload_n hx hb dJ4_length_8abf5_0 rfl (lv_at hl 0 rfl) ?_
  refine gcallP X (C := RJ4) (As := []) (rest := []) (wr := []) (Cn.toG rfl (kJ5_length D g x l q r n)) mw_J5_length_8abf5 ml_J4_343 ⟨(Nat.le_of_ble_eq_true rfl), (Nat.le_of_ble_eq_true rfl)⟩ [0] (by decide +kernel) rfl hP hD hS 0 rfl rfl rfl hl.1 rfl (Nat.le_of_ble_eq_true rfl) dJ4_length_8abf5_1 ⟨(Nat.le_of_ble_eq_true rfl), (Nat.le_of_ble_eq_true rfl)⟩ (fun z w1 H locs hp hP hD hS => ?_)
  obtain ⟨rfl, rfl⟩ := hp
  exact fin _ _ _ _ rfl hP hS dJ4_length_8abf5_4
set_option maxHeartbeats 4000000 in
set_option maxRecDepth 100000 in
theorem kJ5_getValue (q r n : Nat) : CnG D g x l yJ5_getValue_6d5f1 cJ5_getValue_6d5f1 1 (some (.array .byte)) 0 0 0 0 [.ref q] [(q, .inr (8, [.ref r, .int 0, .int 0, .int (nI n)]))] (fun z w => z = some (.ref r) ∧ w = [(q, .inr (8, [.ref r, .int 0, .int 0, .int (nI n)]))]) := by
  refine CnG.a (Or.inr ⟨_, rfl⟩) (by decide +kernel) (Nat.le_of_ble_eq_true rfl) (fun p e s m args below meth c9 A Q ls X hnm hD hP hS fin hl => ?_)
  obtain ⟨hx, hb, hml, -, -, hown, hts, hK, hA, hE⟩ := id X
  have hl : lv_has ls 1 [(0, .ref q)] := hl
  refine lv_aload_n hx hb dJ5_getValue_6d5f1_0 rfl (lv_at hl 0 rfl) ?_
  refine mget X fl_J5_15 hP 0 rfl rfl dJ5_getValue_6d5f1_1 ?_
  exact fin (some (.ref r)) _ _ _ _ _ ⟨rfl, rfl⟩ (fun z h => by cases h; exact ⟨_, rfl⟩) (by constructor <;> (intro h; cases h)) hP hD hS dJ5_getValue_6d5f1_4
end TXS
section GLEN
variable {p : Program} {l : Launch} {e : Env} {R : Room} {s : State} {m : MethodId} {args : Array Value} {below : List Frame} {meth : Method} {c : Code} {H : Heap} {locs : List Loc} {cells slots : Nat} {Q : State → Prop}
variable {D : va_G} {g : Nat → ClassId} {x : Xd} {A : Nat → Prop} {cc : ByteArray} {nL : Nat} {ret0 : Option FieldType} {wr : va_W} {pc : Nat} {ls : Array Slot} {rest : List Value}
/-- length of a builder, asked from the class String -/
theorem glen (X : Cx p s m args meth c RJ0 cc nL ret0 D g x A) {q r n : Nat} (hR : 2 ≤ R.frames ∧ 8 + (1 + 11) + 40 ≤ R.locals) (hP : va_P D vwCl (wr ++ [(q, .inr (8, [.ref r, .int 0, .int 0, .int (nI n)]))]) H) (hD : va_D A (wr ++ [(q, .inr (8, [.ref r, .int 0, .int 0, .int (nI n)]))])) (hS : va_S A s.heap H locs) (hls : ls.size = nL) (hrm : (rest.map fun v => v.category).sum ≤ 8) (hdg : decode cc pc = .ok (.invokevirtual 549, 3)) (hcs : cells ≤ R.cells ∧ slots ≤ R.slots)
    (kk : ∀ (H1 : Heap) (locs1 : List Loc), va_P D vwCl (wr ++ [(q, .inr (8, [.ref r, .int 0, .int 0, .int (nI n)]))]) H1 → va_D A (wr ++ [(q, .inr (8, [.ref r, .int 0, .int 0, .int (nI n)]))]) → va_S A s.heap H1 locs1 → W p l e R s m args below meth c H1 locs1 cells slots Q (F0 m (pc + 3) ls (.int (nI n) :: rest))) : W p l e R s m args below meth c H locs cells slots Q (F0 m pc ls (.ref q :: rest)) := by
  obtain ⟨hx, hb, hml, -, -, hown, hts, hK, hA, hE⟩ := X
  have hq : (wr ++ [(q, .inr (8, [.ref r, .int 0, .int 0, .int (nI n)]))] : va_W)[wr.length]? = some (q, .inr (8, [.ref r, .int 0, .int 0, .int (nI n)])) := List.getElem?_concat_length
  have hrc := va_recv hK hP (ci := 8) rfl hq
  obtain ⟨h1, h2⟩ := gpre (g := g) (x := x) hE hK hA hP hD hS [.ref q]
  obtain ⟨w1, w2, w3, w4, w5, w6, w7⟩ := mo_len
  have cw : va_CU R s args RJ0 RJ4 RJ5 549 yJ5_length_8abf5 yJ4_length_8abf5 cJ4_length_8abf5 1 (some .int) (mws yJ4_length_8abf5 cJ4_length_8abf5 1 (some .int)) (rmC 1 40 0 0) 0 0 0 :=
    ⟨⟨rfl, rfl, hR.1, hR.2, pay_in hts (mws_good w6), List.mem_cons_self⟩, hts _ w6, hts _ w5, ⟨by decide, by decide⟩, gsig (by decide +kernel), hts _ ml_J0_549, hts _ w1, va_Decl.of (hts _ w2) (hts _ w7), hts _ w3, hts _ w4⟩
  refine gbehind (a := args) (va_runU (As := []) (rest := rest) (n := 0) (C := RJ4) (owner := RJ5) (x := yJ5_length_8abf5) ⟨hx, hb, hml, hown, hts⟩ (Cn.toG rfl (kJ4_length D g x l q r n) H.size) cw ⟨h1, hrc, h2⟩ rfl rfl hls rfl (lv_room hrm) hdg hcs) hA hP hD hS (fun z w1 H1 locs1 hp hP hD hS => ?_)
  obtain ⟨rfl, rfl⟩ := hp
  exact kk H1 locs1 hP hD hS
end GLEN
section TXS2
variable (D : va_G) (g : Nat → ClassId) (x : Xd) (l : Launch)
set_option maxHeartbeats 4000000 in
set_option maxRecDepth 100000 in
theorem kJ0_init2 (a q r cap : Nat) (L : List Nat) (f : Nat → Int32) (hf : Tx L f) (hL : L.length ≤ cap) (hcap : cap ≤ 410) : CnG D g x l yJ0_init_db425 cJ0_init_db425 5 none 3 200 1 1024 [.ref a, .ref q, .null] ((a, .inr (7, [.null, .int 0, .int 0, .int 0])) :: sbW g q r L.length cap f) (fun z w => z = none ∧ ∃ b f1, w = sbW g q r L.length cap f ++ stW g a b L.length f1 ∧ Tx L f1) := by
  refine CnG.v (by decide +kernel) (Nat.le_of_ble_eq_true rfl) (fun p e s m args below meth c9 A Q ls X hnm hD hP hS fin hl => ?_)
  obtain ⟨hx, hb, hml, -, -, hown, hts, hK, hA, hE⟩ := id X
  have hl : lv_has ls 5 [(0, .ref a), (1, .ref q), (2, .null)] := hl
  refine lv_aload_n hx hb dJ0_init_db425_0 rfl (lv_at hl 0 rfl) ?_
  refine cobj X ob_J0_1 hl.1 dJ0_init_db425_1 (Nat.le_of_ble_eq_true rfl) (Nat.le_of_ble_eq_true rfl) ?_
  refine lv_aload_n hx hb dJ0_init_db425_4 rfl (lv_at hl 1 rfl) ?_
  refine gcallU X (C := RJ4) (As := []) (rest := []) (wr := [(a, .inr (7, [.null, .int 0, .int 0, .int 0])), (r, .inl (g 3, cap, .inl f))]) (kJ5_getValue D g x l q r L.length) mw_J5_getValue_6d5f1 ml_J0_552 ⟨(Nat.le_of_ble_eq_true rfl), (Nat.le_of_ble_eq_true rfl)⟩ [0, 2, 1] (by decide +kernel) rfl hP hD hS 1 rfl rfl rfl hl.1 rfl (Nat.le_of_ble_eq_true rfl) dJ0_init_db425_5 ⟨(Nat.le_of_ble_eq_true rfl), (Nat.le_of_ble_eq_true rfl)⟩ (fun z w1 H locs hp hP hD hS => ?_)
  obtain ⟨rfl, rfl⟩ := hp
  refine lv_astore_n (lv' := [(3, .ref r), (0, .ref a), (1, .ref q), (2, .null)]) hx hb dJ0_init_db425_8 rfl hl (by decide) rfl (fun ls hl => ?_)
  refine lv_aload_n hx hb dJ0_init_db425_9 rfl (lv_at hl 2 rfl) ?_
  refine glen X ⟨(Nat.le_of_ble_eq_true rfl), (Nat.le_of_ble_eq_true rfl)⟩ hP hD hS hl.1 (Nat.le_of_ble_eq_true rfl) dJ0_init_db425_10 ⟨(Nat.le_of_ble_eq_true rfl), (Nat.le_of_ble_eq_true rfl)⟩ (fun H locs hP hD hS => ?_)
  have hP : va_P D vwCl [(a, .inr (7, [.null, .int 0, .int 0, .int 0])), (r, .inl (g 3, cap, .inl f)), (q, .inr (8, [.ref r, .int 0, .int 0, .int (nI L.length)]))] H := hP
  have hD : va_D A [(a, .inr (7, [.null, .int 0, .int 0, .int 0])), (r, .inl (g 3, cap, .inl f)), (q, .inr (8, [.ref r, .int 0, .int 0, .int (nI L.length)]))] := hD
  refine lv_istore (lv' := [(4, .int (nI L.length)), (3, .ref r), (0, .ref a), (1, .ref q), (2, .null)]) hx hb dJ0_init_db425_13 hl (by decide) rfl (fun ls hl => ?_)
  refine lv_aload_n hx hb dJ0_init_db425_15 rfl (lv_at hl 3 rfl) ?_
  refine mcallU X (As := []) (rest := []) (ws1 := [(a, .inr (7, [.null, .int 0, .int 0, .int 0])), (r, .inl (g 3, cap, .inl f)), (q, .inr (8, [.ref r, .int 0, .int 0, .int (nI L.length)]))]) (st1 := [.int 1]) (kJ5_isLatin1 D g x l q r L.length) mw_J5_isLatin1_aae02 ml_J0_1047 ⟨(Nat.le_of_ble_eq_true rfl), (Nat.le_of_ble_eq_true rfl)⟩ hP hD hS [2] (by decide +kernel) rfl rfl 2 rfl rfl rfl hl.1 rfl (Nat.le_of_ble_eq_true rfl) dJ0_init_db425_16 ⟨(Nat.le_of_ble_eq_true rfl), (Nat.le_of_ble_eq_true rfl)⟩ rfl rfl (fun H locs hP hD hS => ?_)
  refine lv_if_eq (tgt := 41) hx hb dJ0_init_db425_19 (by decide) (fun h => absurd h (by decide)) (fun _ => ?_)
  refine lv_aload_n hx hb dJ0_init_db425_22 rfl (lv_at hl 2 rfl) ?_
  refine lv_iconst (v := 0) hx hb dJ0_init_db425_23 (by decide) ?_
  refine cputB X hnm fl_J0_15 (ws1 := [(a, .inr (7, [.null, .int 0, .int 0, .int 0])), (r, .inl (g 3, cap, .inl f)), (q, .inr (8, [.ref r, .int 0, .int 0, .int (nI L.length)]))]) hP hD hS 0 rfl rfl ⟨_, rfl, rfl, .byte, by decide +kernel, by decide +kernel, by decide +kernel⟩ dJ0_init_db425_24 rfl (fun H locs hP hD hS => ?_)
  refine lv_aload_n hx hb dJ0_init_db425_27 rfl (lv_at hl 2 rfl) ?_
  refine lv_aload_n hx hb dJ0_init_db425_28 rfl (lv_at hl 1 rfl) ?_
  refine lv_iconst (v := 0) hx hb dJ0_init_db425_29 (by decide) ?_
  refine lv_iload hx hb dJ0_init_db425_30 (lv_at hl 0 rfl) ?_
  refine gcallS X (As := [.ref r, .int 0, .int (nI L.length)]) (rest := [.ref a]) (wr := [(a, .inr (7, [.null, .int 0, .int 0, .int 0])), (q, .inr (8, [.ref r, .int 0, .int 0, .int (nI L.length)]))]) (kJ7_range D g x l r cap L.length L f hf rfl hL (by omega)) mw_J7_copyOfRange_39247 ml_J0_54 ⟨(Nat.le_of_ble_eq_true rfl), (Nat.le_of_ble_eq_true rfl)⟩ [0, 2, 1] (by decide +kernel) rfl hP hD hS rfl hl.1 rfl (Nat.le_of_ble_eq_true rfl) dJ0_init_db425_32 ⟨(Nat.le_of_ble_eq_true rfl), (Nat.le_of_ble_eq_true rfl)⟩ (fun z w1 H locs hp hP hD hS => ?_)
  obtain ⟨b, f1, rfl, rfl, hf1⟩ := hp
  have hP : va_P D vwCl [(a, .inr (7, [.null, .int 0, .int 0, .int 0])), (q, .inr (8, [.ref r, .int 0, .int 0, .int (nI L.length)])), (r, .inl (g 3, cap, .inl f)), (b, .inl (g 3, L.length, .inl f1))] H := hP
  have hD : va_D A [(a, .inr (7, [.null, .int 0, .int 0, .int 0])), (q, .inr (8, [.ref r, .int 0, .int 0, .int (nI L.length)])), (r, .inl (g 3, cap, .inl f)), (b, .inl (g 3, L.length, .inl f1))] := hD
  refine cputR X hnm fl_J0_9 (ws1 := [(a, .inr (7, [.ref b, .int 0, .int 0, .int 0])), (q, .inr (8, [.ref r, .int 0, .int 0, .int (nI L.length)])), (r, .inl (g 3, cap, .inl f)), (b, .inl (g 3, L.length, .inl f1))]) hP hD hS 0 rfl rfl ⟨_, rfl, rfl, .array .byte, by decide +kernel, rfl, rfl⟩ dJ0_init_db425_35 rfl (fun H locs hP hD hS => ?_)
  refine lv_goto (tgt := 97) hx hb dJ0_init_db425_38 (by decide) ?_
  obtain ⟨hP, hD⟩ := gpick (wq := sbW g q r L.length cap f ++ stW g a b L.length f1) [1, 2, 0, 3] (by decide +kernel) rfl hP hD
  refine W.widen (k := 1) (n := 1024) (Nat.le_of_ble_eq_true rfl) (Nat.le_of_ble_eq_true rfl) ?_
  exact fin none _ _ _ _ _ ⟨rfl, b, f1, rfl, hf1⟩ (fun z h => by cases h) (by constructor <;> (intro; rfl)) hP hD hS dJ0_init_db425_97
set_option maxHeartbeats 4000000 in
set_option maxRecDepth 100000 in
theorem kJ0_init1 (a q r cap : Nat) (L : List Nat) (f : Nat → Int32) (hf : Tx L f) (hL : L.length ≤ cap) (hcap : cap ≤ 410) : CnG D g x l yJ0_init_81219 cJ0_init_81219 2 none 4 240 1 1024 [.ref a, .ref q] ((a, .inr (7, [.null, .int 0, .int 0, .int 0])) :: sbW g q r L.length cap f) (fun z w => z = none ∧ ∃ b f1, w = sbW g q r L.length cap f ++ stW g a b L.length f1 ∧ Tx L f1) := by
  refine CnG.v (by decide +kernel) (Nat.le_of_ble_eq_true rfl) (fun p e s m args below meth c9 A Q ls X hnm hD hP hS fin hl => ?_)
  obtain ⟨hx, hb, hml, -, -, hown, hts, hK, hA, hE⟩ := id X
  have hl : lv_has ls 2 [(0, .ref a), (1, .ref q)] := hl
  refine lv_aload_n hx hb dJ0_init_81219_0 rfl (lv_at hl 0 rfl) ?_
  refine lv_aload_n hx hb dJ0_init_81219_1 rfl (lv_at hl 1 rfl) ?_
  refine lv_null hx hb dJ0_init_81219_2 ?_
  refine gcallI X (As := [.ref q, .null]) (rest := []) (wr := []) (kJ0_init2 D g x l a q r cap L f hf hL hcap) mw_J0_init_db425 ml_J0_489 ⟨(Nat.le_of_ble_eq_true rfl), (Nat.le_of_ble_eq_true rfl)⟩ [0, 1, 2] (by decide +kernel) rfl hP hD hS rfl hl.1 rfl (Nat.le_of_ble_eq_true rfl) dJ0_init_81219_3 ⟨(Nat.le_of_ble_eq_true rfl), (Nat.le_of_ble_eq_true rfl)⟩ (fun z w1 H locs hp hP hD hS => ?_)
  obtain ⟨rfl, hp⟩ := hp
  refine W.widen (k := 1) (n := 1024) (Nat.le_of_ble_eq_true rfl) (Nat.le_of_ble_eq_true rfl) ?_
  exact fin none w1 _ _ _ _ ⟨rfl, hp⟩ (fun z h => by cases h) (by constructor <;> (intro; rfl)) hP hD hS dJ0_init_81219_6
set_option maxHeartbeats 4000000 in
set_option maxRecDepth 100000 in
theorem kJ4_toString (q r cap : Nat) (L : List Nat) (f : Nat → Int32) (hf : Tx L f) (hL : L.length ≤ cap) (hcap : cap ≤ 410) : CnG D g x l yJ4_toString_0e30d cJ4_toString_0e30d 1 (some (.object "java/lang/String")) 5 280 2 1028 [.ref q] (sbW g q r L.length cap f) (fun z w => ∃ a b f1, z = some (.ref a) ∧ w = sbW g q r L.length cap f ++ stW g a b L.length f1 ∧ Tx L f1) := by
  refine CnG.a (Or.inl ⟨_, rfl⟩) (by decide +kernel) (Nat.le_of_ble_eq_true rfl) (fun p e s m args below meth c9 A Q ls X hnm hD hP hS fin hl => ?_)
  obtain ⟨hx, hb, hml, -, -, hown, hts, hK, hA, hE⟩ := id X
  have hl : lv_has ls 1 [(0, .ref q)] := hl
  refine cnewO X nw_J4_18 hP hD hS (Nat.le_of_ble_eq_true rfl) (Nat.le_of_ble_eq_true rfl) dJ4_toString_0e30d_0 (fun a H hP hD hS => ?_)
  have hP : va_P D vwCl (sbW g q r L.length cap f ++ [(a, .inr (7, [.null, .int 0, .int 0, .int 0]))]) H := hP
  have hD : va_D A (sbW g q r L.length cap f ++ [(a, .inr (7, [.null, .int 0, .int 0, .int 0]))]) := hD
  refine lv_dup hx hb dJ4_toString_0e30d_3 rfl ?_
  refine lv_aload_n hx hb dJ4_toString_0e30d_4 rfl (lv_at hl 0 rfl) ?_
  refine gcallI X (As := [.ref q]) (rest := [.ref a]) (wr := []) (kJ0_init1 D g x l a q r cap L f hf hL hcap) mw_J0_init_81219 ml_J4_137 ⟨(Nat.le_of_ble_eq_true rfl), (Nat.le_of_ble_eq_true rfl)⟩ [2, 0, 1] (by decide +kernel) rfl hP hD hS rfl hl.1 rfl (Nat.le_of_ble_eq_true rfl) dJ4_toString_0e30d_5 ⟨(Nat.le_of_ble_eq_true rfl), (Nat.le_of_ble_eq_true rfl)⟩ (fun z w1 H locs hp hP hD hS => ?_)
  obtain ⟨rfl, b, f1, rfl, hf1⟩ := hp
  refine W.widen (k := 2) (n := 1028) (Nat.le_of_ble_eq_true rfl) (Nat.le_of_ble_eq_true rfl) ?_
  exact fin (some (.ref a)) _ _ _ _ _ ⟨a, b, f1, rfl, rfl, hf1⟩ (fun z h => by cases h; exact ⟨_, rfl⟩) (by constructor <;> (intro h; cases h)) hP hD hS dJ4_toString_0e30d_8
end TXS2
