/-! Texts: what a row of bytes holds; Strings made here; the methods of String. -/
/-- the bytes of f are the letters of L -/
def Tx (L : List Nat) (f : Nat → Int32) : Prop := sb_Fit f ∧ ∀ i : Nat, i < L.length → f i = nI (L.getD i 0)
abbrev stW (g : Nat → ClassId) (a b n : Nat) (f : Nat → Int32) : va_W := [(a, .inr (7, [.ref b, .int 0, .int 0, .int 0])), (b, .inl (g 3, n, .inl f))]
abbrev sbW (g : Nat → ClassId) (q r n cap : Nat) (f : Nat → Int32) : va_W := [(q, .inr (8, [.ref r, .int 0, .int 0, .int (nI n)])), (r, .inl (g 3, cap, .inl f))]
def litL : Nat → List Nat := fun i => ([[112, 111, 105, 110, 116], [112, 108, 97, 105, 110], [116, 111, 108, 100], [98, 108, 101, 110, 100], [119, 101, 105, 103, 104, 116], [], [112, 111, 105, 110, 116, 32], [32], [32, 119, 101, 105, 103, 104, 116, 32], [59], [112, 108, 97, 105, 110, 59], [98, 108, 101, 110, 100, 32], [116, 111, 108, 100, 59]] : List (List Nat)).getD i []
theorem litL_eq : ∀ i, i < 13 → litB i = (litL i).map nI := by decide +kernel
theorem litL_ln : ∀ i, i < 13 → (litB i).length = (litL i).length ∧ (litB i).length < 256 := by decide +kernel
theorem litF_fit : ∀ i, i < 13 → ∀ b ∈ litB i, fits .byte (.int b) = true := by decide +kernel
theorem litF_Tx {i : Nat} (hi : i < 13) : Tx (litL i) (fun j => (litB i).getD j 0) := by
  refine ⟨fun j => ?_, fun j hj => ?_⟩
  · show fits .byte (.int ((litB i).getD j 0)) = true
    by_cases h : j < (litB i).length
    · rw [List.getD_eq_getElem?_getD, List.getElem?_eq_getElem h]
      exact litF_fit i hi _ (List.getElem_mem h)
    · rw [List.getD_eq_getElem?_getD, List.getElem?_eq_none (Nat.le_of_not_lt h)]
      decide
  · show (litB i).getD j 0 = nI ((litL i).getD j 0)
    rw [litL_eq i hi, List.getD_eq_getElem?_getD, List.getD_eq_getElem?_getD, List.getElem?_map, List.getElem?_eq_getElem hj]
    rfl
theorem Tx.app {L M : List Nat} {f h : Nat → Int32} {n : Nat} (hf : Tx L f) (hh : Tx M h) (hn : n = L.length) {w : Nat} (hw : w = M.length) : Tx (L ++ M) (va_cpy h f 0 n w) := by
  subst hn; subst hw
  refine ⟨sb_fitC hh.1 hf.1, fun i hi => ?_⟩
  rw [List.length_append] at hi
  by_cases q : i < L.length
  · rw [pk_cpy_out (Or.inl q), hf.2 i q, List.getD_eq_getElem?_getD, List.getD_eq_getElem?_getD, List.getElem?_append_left q]
  · rw [pk_cpy_in (Nat.le_of_not_lt q) (by omega), hh.2 _ (by omega), List.getD_eq_getElem?_getD, List.getD_eq_getElem?_getD, List.getElem?_append_right (Nat.le_of_not_lt q), Nat.zero_add]
theorem Tx.keep {L : List Nat} {f h : Nat → Int32} (hf : Tx L f) (hh : sb_Fit h) (he : ∀ i, i < L.length → h i = f i) : Tx L h := ⟨hh, fun i hi => by rw [he i hi, hf.2 i hi]⟩
theorem Tx.snoc {L : List Nat} {f : Nat → Int32} (hf : Tx L f) {c : Nat} (hc : c < 128) {n : Nat} (hn : n = L.length) : Tx (L ++ [c]) (upd f n (nI c)) := by
  subst hn
  have hb : ∀ c, c < 128 → fits .byte (.int (nI c)) = true := by decide +kernel
  refine ⟨sb_fitU hf.1 (hb c hc), fun i hi => ?_⟩
  rw [List.length_append] at hi
  have hi : i < L.length + 1 := hi
  by_cases q : i = L.length
  · subst q
    rw [pk_us, List.getD_eq_getElem?_getD, List.getElem?_concat_length]
    rfl
  · rw [pk_un q, hf.2 i (by omega), List.getD_eq_getElem?_getD, List.getD_eq_getElem?_getD, List.getElem?_append_left (by omega)]
section TXM
variable (D : va_G) (g : Nat → ClassId) (x : Xd) (l : Launch)
set_option maxHeartbeats 4000000 in
set_option maxRecDepth 100000 in
theorem kJ0d_coder (a b n : Nat) (f : Nat → Int32) : Cn D g x l yJ0_coder_7d493 cJ0_coder_7d493 1 (some .byte) 0 0 [.ref a] (stW g a b n f) (stW g a b n f) (some (.int 0)) := by
  refine CnI (by decide +kernel) (Nat.le_of_ble_eq_true rfl) (fun p e s m args below meth c A Q ls X hD hP hS fin hl => ?_)
  obtain ⟨hx, hb, hml, -, -, hown, hts, hK, hA, hE⟩ := id X
  have hl : lv_has ls 1 [(0, .ref a)] := hl
  refine va_gets hx hb hE.2.2.2.2.1 hS hown (hts _ fj_38) (fun _ h => h) dJ0_coder_7d493_0 ?_
  refine lv_if_eq (tgt := 13) hx hb dJ0_coder_7d493_3 (by decide) (fun h => absurd h (by decide)) (fun _ => ?_)
  refine lv_aload_n hx hb dJ0_coder_7d493_6 rfl (lv_at hl 0 rfl) ?_
  refine mget X fl_J0_15 hP 0 rfl rfl dJ0_coder_7d493_7 ?_
  refine lv_goto (tgt := 14) hx hb dJ0_coder_7d493_10 (by decide) ?_
  exact fin _ _ _ _ rfl hP hS dJ0_coder_7d493_14
set_option maxHeartbeats 4000000 in
set_option maxRecDepth 100000 in
theorem kJ0d_length (a b n : Nat) (f : Nat → Int32) : Cn D g x l yJ0_length_8abf5 cJ0_length_8abf5 1 (some .int) 1 40 [.ref a] (stW g a b n f) (stW g a b n f) (some (.int (nI n))) := by
  refine CnI (by decide +kernel) (Nat.le_of_ble_eq_true rfl) (fun p e s m args below meth c A Q ls X hD hP hS fin hl => ?_)
  obtain ⟨hx, hb, hml, -, -, hown, hts, hK, hA, hE⟩ := id X
  have hl : lv_has ls 1 [(0, .ref a)] := hl
  refine lv_aload_n hx hb dJ0_length_8abf5_0 rfl (lv_at hl 0 rfl) ?_
  refine mget X fl_J0_9 hP 0 rfl rfl dJ0_length_8abf5_1 ?_
  refine va_alen hx hb hK hP 1 3 rfl rfl (v := nI n) rfl dJ0_length_8abf5_4 ?_
  refine lv_aload_n hx hb dJ0_length_8abf5_5 rfl (lv_at hl 0 rfl) ?_
  refine mcallV X (As := []) (rest := [.int (nI n)]) (ws1 := stW g a b n f) (st1 := [.int 0, .int (nI n)]) (kJ0d_coder D g x l a b n f) mw_J0_coder_7d493 ml_J0_335 ⟨(Nat.le_of_ble_eq_true rfl), (Nat.le_of_ble_eq_true rfl)⟩ hP hD hS [0, 1] (by decide +kernel) rfl rfl 0 rfl rfl rfl hl.1 rfl (Nat.le_of_ble_eq_true rfl) dJ0_length_8abf5_6 ⟨Nat.le_refl _, Nat.le_refl _⟩ rfl rfl (fun H locs hP hD hS => ?_)
  refine lv_ishr hx hb dJ0_length_8abf5_9 ?_
  rw [sb_shr0]
  exact fin _ _ _ _ rfl hP hS dJ0_length_8abf5_10
set_option maxHeartbeats 4000000 in
set_option maxRecDepth 100000 in
theorem kJ0d_isLatin1 (a b n : Nat) (f : Nat → Int32) : Cn D g x l yJ0_isLatin1_aae02 cJ0_isLatin1_aae02 1 (some .boolean) 0 0 [.ref a] (stW g a b n f) (stW g a b n f) (some (.int 1)) := by
  refine CnI (by decide +kernel) (Nat.le_of_ble_eq_true rfl) (fun p e s m args below meth c A Q ls X hD hP hS fin hl => ?_)
  obtain ⟨hx, hb, hml, -, -, hown, hts, hK, hA, hE⟩ := id X
  have hl : lv_has ls 1 [(0, .ref a)] := hl
  refine va_gets hx hb hE.2.2.2.2.1 hS hown (hts _ fj_38) (fun _ h => h) dJ0_isLatin1_aae02_0 ?_
  refine lv_if_eq (tgt := 17) hx hb dJ0_isLatin1_aae02_3 (by decide) (fun h => absurd h (by decide)) (fun _ => ?_)
  refine lv_aload_n hx hb dJ0_isLatin1_aae02_6 rfl (lv_at hl 0 rfl) ?_
  refine mget X fl_J0_15 hP 0 rfl rfl dJ0_isLatin1_aae02_7 ?_
  refine lv_if_ne (tgt := 17) hx hb dJ0_isLatin1_aae02_10 (by decide) (fun h => absurd rfl h) (fun _ => ?_)
  refine lv_iconst (v := 1) hx hb dJ0_isLatin1_aae02_13 (by decide) ?_
  refine lv_goto (tgt := 18) hx hb dJ0_isLatin1_aae02_14 (by decide) ?_
  exact fin _ _ _ _ (nar_z (Or.inr rfl)) hP hS dJ0_isLatin1_aae02_18
set_option maxHeartbeats 4000000 in
set_option maxRecDepth 100000 in
theorem kJ1d_charAt (b n : Nat) (f : Nat → Int32) (k c : Nat) (hk : k < n) (hn : n < 65536) (hc : f k = nI c) (h128 : c < 128) : Cn D g x l yJ1_charAt_3b067 cJ1_charAt_3b067 2 (some .char) 2 120 [.ref b, .int (nI k)] [(b, .inl (g 3, n, .inl f))] [(b, .inl (g 3, n, .inl f))] (some (.int (nI c))) := by
  have hch : ∀ c, c < 128 → (Int32.toUInt32 (nI c &&& 255) % 65536).toInt32 = nI c ∧ narrow .char (.int (nI c)) = .int (nI c) := by decide +kernel
  refine CnI (by decide +kernel) (Nat.le_of_ble_eq_true rfl) (fun p e s m args below meth c9 A Q ls X hD hP hS fin hl => ?_)
  obtain ⟨hx, hb, hml, -, -, hown, hts, hK, hA, hE⟩ := id X
  have hl : lv_has ls 2 [(0, .ref b), (1, .int (nI k))] := hl
  refine lv_iload_n hx hb dJ1_charAt_3b067_0 rfl (lv_at hl 1 rfl) ?_
  refine lv_aload_n hx hb dJ1_charAt_3b067_1 rfl (lv_at hl 0 rfl) ?_
  refine va_alen hx hb hK hP 0 3 rfl rfl (v := nI n) rfl dJ1_charAt_3b067_2 ?_
  refine mcallS X (As := [.int (nI k), .int (nI n)]) (rest := []) (wc := []) (wc1 := []) (ws1 := [(b, .inl (g 3, n, .inl f))]) (st1 := []) (kJ0_checkIndex D g x l (nI k) (nI n) (nI_pos (by omega)) (nI_lt hk (by omega))) mw_J0_checkIndex_df160 ml_J1_9 ⟨(Nat.le_of_ble_eq_true rfl), (Nat.le_of_ble_eq_true rfl)⟩ hP hD hS [] rfl rfl rfl rfl hl.1 rfl (Nat.le_of_ble_eq_true rfl) dJ1_charAt_3b067_3 ⟨Nat.le_refl _, Nat.le_refl _⟩ rfl rfl (fun H locs hP hD hS => ?_)
  refine lv_aload_n hx hb dJ1_charAt_3b067_6 rfl (lv_at hl 0 rfl) ?_
  refine lv_iload_n hx hb dJ1_charAt_3b067_7 rfl (lv_at hl 1 rfl) ?_
  refine va_bald hx hb hK hP 0 3 (f := f) rfl rfl (vp_in_nI hk (by omega)) dJ1_charAt_3b067_8 ?_
  rw [nI_clamp (by omega), hc]
  refine lv_sipush (v := 255) hx hb dJ1_charAt_3b067_9 (by decide) ?_
  refine lv_iand hx hb dJ1_charAt_3b067_12 ?_
  refine lv_i2c (v := nI c) hx hb dJ1_charAt_3b067_13 (hch c h128).1 ?_
  exact fin _ _ _ _ (hch c h128).2 hP hS dJ1_charAt_3b067_14
set_option maxHeartbeats 4000000 in
set_option maxRecDepth 100000 in
theorem kJ0d_charAt (a b n : Nat) (f : Nat → Int32) (k c : Nat) (hk : k < n) (hn : n < 65536) (hc : f k = nI c) (h128 : c < 128) : Cn D g x l yJ0_charAt_5068e cJ0_charAt_5068e 2 (some .char) 3 180 [.ref a, .int (nI k)] (stW g a b n f) (stW g a b n f) (some (.int (nI c))) := by
  have hch : ∀ c, c < 128 → narrow .char (.int (nI c)) = .int (nI c) := by decide +kernel
  refine CnI (by decide +kernel) (Nat.le_of_ble_eq_true rfl) (fun p e s m args below meth c9 A Q ls X hD hP hS fin hl => ?_)
  obtain ⟨hx, hb, hml, -, -, hown, hts, hK, hA, hE⟩ := id X
  have hl : lv_has ls 2 [(0, .ref a), (1, .int (nI k))] := hl
  refine lv_aload_n hx hb dJ0_charAt_5068e_0 rfl (lv_at hl 0 rfl) ?_
  refine mcallV X (As := []) (rest := []) (ws1 := stW g a b n f) (st1 := [.int 1]) (kJ0d_isLatin1 D g x l a b n f) mw_J0_isLatin1_aae02 ml_J0_492 ⟨(Nat.le_of_ble_eq_true rfl), (Nat.le_of_ble_eq_true rfl)⟩ hP hD hS [0, 1] (by decide +kernel) rfl rfl 0 rfl rfl rfl hl.1 rfl (Nat.le_of_ble_eq_true rfl) dJ0_charAt_5068e_1 ⟨Nat.le_refl _, Nat.le_refl _⟩ rfl rfl (fun H locs hP hD hS => ?_)
  refine lv_if_eq (tgt := 16) hx hb dJ0_charAt_5068e_4 (by decide) (fun h => absurd h (by decide)) (fun _ => ?_)
  refine lv_aload_n hx hb dJ0_charAt_5068e_7 rfl (lv_at hl 0 rfl) ?_
  refine mget X fl_J0_9 hP 0 rfl rfl dJ0_charAt_5068e_8 ?_
  refine lv_iload_n hx hb dJ0_charAt_5068e_11 rfl (lv_at hl 1 rfl) ?_
  refine mcallS X (As := [.ref b, .int (nI k)]) (rest := []) (ws1 := stW g a b n f) (st1 := [.int (nI c)]) (kJ1d_charAt D g x l b n f k c hk hn hc h128) mw_J1_charAt_3b067 ml_J0_495 ⟨(Nat.le_of_ble_eq_true rfl), (Nat.le_of_ble_eq_true rfl)⟩ hP hD hS [1] (by decide +kernel) rfl rfl rfl hl.1 rfl (Nat.le_of_ble_eq_true rfl) dJ0_charAt_5068e_12 ⟨Nat.le_refl _, Nat.le_refl _⟩ rfl rfl (fun H locs hP hD hS => ?_)
  exact fin _ _ _ _ (hch c h128) hP hS dJ0_charAt_5068e_15
set_option maxHeartbeats 4000000 in
set_option maxRecDepth 100000 in
theorem kJ0c_getBytes (i : Nat) (hi : i < 13) (r cap k : Nat) (F : Nat → Int32) (hk : k + (litB i).length ≤ cap) (hcap : cap < 65536) : Cn D g x l yJ0_getBytes_840e7 cJ0_getBytes_840e7 4 none 1 40 [.ref (x.1 i), .ref r, .int (nI k), .int 0] [(r, .inl (g 3, cap, .inl F))] [(r, .inl (g 3, cap, .inl (va_cpy (fun j => (litB i).getD j 0) F 0 k (litB i).length)))] none := by
  have hln := (litL_ln i hi).2
  refine CnV (by decide +kernel) (Nat.le_of_ble_eq_true rfl) (fun p e s m args below meth c9 A Q ls X hD hP hS fin hl => ?_)
  obtain ⟨hx, hb, hml, -, -, hown, hts, hK, hA, hE⟩ := id X
  have hl : lv_has ls 4 [(0, .ref (x.1 i)), (1, .ref r), (2, .int (nI k)), (3, .int 0)] := hl
  refine lv_aload_n hx hb dJ0_getBytes_840e7_0 rfl (lv_at hl 0 rfl) ?_
  refine mcallE X (As := []) (rest := []) (st1 := [.int 0]) (kJ0_coder D g x l i hi) hi rfl mw_J0_coder_7d493 ml_J0_335 ⟨(Nat.le_of_ble_eq_true rfl), (Nat.le_of_ble_eq_true rfl)⟩ hP hD hS rfl hl.1 rfl (Nat.le_of_ble_eq_true rfl) dJ0_getBytes_840e7_1 ⟨Nat.le_refl _, Nat.le_refl _⟩ rfl (fun H locs hP hD hS => ?_)
  refine lv_iload_n hx hb dJ0_getBytes_840e7_4 rfl (lv_at hl 3 rfl) ?_
  refine lv_icmp_ne (tgt := 28) hx hb dJ0_getBytes_840e7_5 (by decide) (fun h => absurd rfl h) (fun _ => ?_)
  refine lv_aload_n hx hb dJ0_getBytes_840e7_8 rfl (lv_at hl 0 rfl) ?_
  refine vk_getf hx hb ((hE.2.2.2.1 i hi).1 0 (by decide)).2.2.1 hS hown (hts _ fj_9) (fun _ h => h) dJ0_getBytes_840e7_9 ?_
  refine lv_iconst (v := 0) hx hb dJ0_getBytes_840e7_12 (by decide) ?_
  refine lv_aload_n hx hb dJ0_getBytes_840e7_13 rfl (lv_at hl 1 rfl) ?_
  refine lv_iload_n hx hb dJ0_getBytes_840e7_14 rfl (lv_at hl 2 rfl) ?_
  refine lv_iload_n hx hb dJ0_getBytes_840e7_15 rfl (lv_at hl 3 rfl) ?_
  refine lv_ishl hx hb dJ0_getBytes_840e7_16 ?_
  rw [sb_shl0]
  refine lv_aload_n hx hb dJ0_getBytes_840e7_17 rfl (lv_at hl 0 rfl) ?_
  refine vk_getf hx hb ((hE.2.2.2.1 i hi).1 0 (by decide)).2.2.1 hS hown (hts _ fj_9) (fun _ h => h) dJ0_getBytes_840e7_18 ?_
  refine va_tlen hx hb ((hE.2.2.2.1 i hi).1 0 (by decide)).2.2.2 hS (v := nI (litB i).length) rfl dJ0_getBytes_840e7_21 ?_
  refine vk_copyt hx hb (hml.trans hl.1.symm) hown (hts _ ml_J0_212) (hts _ ac_w.1) (hts _ ac_w.2.1) (hts _ ac_w.2.2) hK hP hD hS (f := (fun j => (litB i).getD j 0)) ((hE.2.2.2.1 i hi).1 0 (by decide)).2.2.2 0 3 rfl rfl (by decide) (nI_pos (by omega)) (nI_pos (by omega)) (by rw [sb_cl0, nI_clamp (by omega)]; exact Nat.le_of_eq (Nat.zero_add _)) (by rw [nI_clamp (by omega), nI_clamp (by omega)]; exact hk) (fun j hj => (litF_Tx hi).1 _) (Nat.le_of_ble_eq_true rfl) (Nat.le_of_ble_eq_true rfl) dJ0_getBytes_840e7_22 (fun H locs hP hD hS => ?_)
  rw [sb_cl0, nI_clamp (n := k) (by omega), nI_clamp (n := (litB i).length) (by omega)] at hP hD
  refine lv_goto (tgt := 43) hx hb dJ0_getBytes_840e7_25 (by decide) ?_
  exact fin _ _ _ _ hP hS dJ0_getBytes_840e7_43
set_option maxHeartbeats 4000000 in
set_option maxRecDepth 100000 in
theorem kJ0d_getBytes (a b n : Nat) (f : Nat → Int32) (hf : sb_Fit f) (r cap k : Nat) (F : Nat → Int32) (hk : k + n ≤ cap) (hcap : cap < 65536) : Cn D g x l yJ0_getBytes_840e7 cJ0_getBytes_840e7 4 none 1 40 [.ref a, .ref r, .int (nI k), .int 0] ((r, .inl (g 3, cap, .inl F)) :: stW g a b n f) ((r, .inl (g 3, cap, .inl (va_cpy f F 0 k n))) :: stW g a b n f) none := by
  refine CnV (by decide +kernel) (Nat.le_of_ble_eq_true rfl) (fun p e s m args below meth c9 A Q ls X hD hP hS fin hl => ?_)
  obtain ⟨hx, hb, hml, -, -, hown, hts, hK, hA, hE⟩ := id X
  have hl : lv_has ls 4 [(0, .ref a), (1, .ref r), (2, .int (nI k)), (3, .int 0)] := hl
  refine lv_aload_n hx hb dJ0_getBytes_840e7_0 rfl (lv_at hl 0 rfl) ?_
  refine mcallV X (As := []) (rest := []) (ws1 := ((r, .inl (g 3, cap, .inl F)) :: stW g a b n f)) (st1 := [.int 0]) (kJ0d_coder D g x l a b n f) mw_J0_coder_7d493 ml_J0_335 ⟨(Nat.le_of_ble_eq_true rfl), (Nat.le_of_ble_eq_true rfl)⟩ hP hD hS [1, 2] (by decide +kernel) rfl rfl 1 rfl rfl rfl hl.1 rfl (Nat.le_of_ble_eq_true rfl) dJ0_getBytes_840e7_1 ⟨Nat.le_refl _, Nat.le_refl _⟩ rfl rfl (fun H locs hP hD hS => ?_)
  refine lv_iload_n hx hb dJ0_getBytes_840e7_4 rfl (lv_at hl 3 rfl) ?_
  refine lv_icmp_ne (tgt := 28) hx hb dJ0_getBytes_840e7_5 (by decide) (fun h => absurd rfl h) (fun _ => ?_)
  refine lv_aload_n hx hb dJ0_getBytes_840e7_8 rfl (lv_at hl 0 rfl) ?_
  refine mget X fl_J0_9 hP 1 rfl rfl dJ0_getBytes_840e7_9 ?_
  refine lv_iconst (v := 0) hx hb dJ0_getBytes_840e7_12 (by decide) ?_
  refine lv_aload_n hx hb dJ0_getBytes_840e7_13 rfl (lv_at hl 1 rfl) ?_
  refine lv_iload_n hx hb dJ0_getBytes_840e7_14 rfl (lv_at hl 2 rfl) ?_
  refine lv_iload_n hx hb dJ0_getBytes_840e7_15 rfl (lv_at hl 3 rfl) ?_
  refine lv_ishl hx hb dJ0_getBytes_840e7_16 ?_
  rw [sb_shl0]
  refine lv_aload_n hx hb dJ0_getBytes_840e7_17 rfl (lv_at hl 0 rfl) ?_
  refine mget X fl_J0_9 hP 1 rfl rfl dJ0_getBytes_840e7_18 ?_
  refine va_alen hx hb hK hP 2 3 rfl rfl (v := nI n) rfl dJ0_getBytes_840e7_21 ?_
  refine va_copyi hx hb (hml.trans hl.1.symm) hown (hts _ ml_J0_212) (hts _ ac_w.1) (hts _ ac_w.2.1) (hts _ ac_w.2.2) hK hP hD hS 2 0 3 3 (f := f) (g := F) rfl rfl rfl rfl (by decide) (by decide) (nI_pos (by omega)) (nI_pos (by omega)) (by rw [sb_cl0, nI_clamp (by omega)]; exact Nat.le_of_eq (Nat.zero_add _)) (by rw [nI_clamp (by omega), nI_clamp (by omega)]; exact hk) (fun j hj => hf _) (Nat.le_of_ble_eq_true rfl) (Nat.le_of_ble_eq_true rfl) dJ0_getBytes_840e7_22 (fun H locs hP hD hS => ?_)
  rw [sb_cl0, nI_clamp (n := k) (by omega), nI_clamp (n := n) (by omega)] at hP hD
  refine lv_goto (tgt := 43) hx hb dJ0_getBytes_840e7_25 (by decide) ?_
  exact fin _ _ _ _ hP hS dJ0_getBytes_840e7_43
end TXM
