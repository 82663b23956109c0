/-! Four letters in a number; the law's load (by program). -/
def chN (L : List Nat) (i : Nat) : Nat := if i < L.length then L.getD i 0 else 32
def fwN (L : List Nat) (k : Nat) : Nat := ((chN L k * 256 + chN L (k + 1)) * 256 + chN L (k + 2)) * 256 + chN L (k + 3)
theorem chN_b {L : List Nat} (h : ∀ c ∈ L, c < 128) (i : Nat) : chN L i < 128 := by
  unfold chN
  by_cases w : i < L.length
  · rw [if_pos w, List.getD_eq_getElem?_getD, List.getElem?_eq_getElem w]
    exact h _ (List.getElem_mem w)
  · rw [if_neg w]
    decide
theorem nI_bv (n : Nat) : (nI n).toBitVec = BitVec.ofNat 32 n := rfl
theorem sh8 {n c : Nat} (hn : n < 8388608) (hc : c < 256) : nI n <<< ((8 : Int32) &&& 31) ||| nI c = nI (n * 256 + c) := by
  rw [show ((8 : Int32) &&& 31) = 8 by decide]
  apply Int32.toBitVec_inj.1
  rw [Int32.toBitVec_or, Int32.toBitVec_shiftLeft]
  apply BitVec.eq_of_toNat_eq
  rw [nI_bv, nI_bv, nI_bv, BitVec.toNat_or, BitVec.toNat_ofNat, BitVec.toNat_ofNat, show ((8 : Int32).toBitVec.smod 32) = 8#32 by decide]
  have e : (BitVec.ofNat 32 n <<< (8#32)).toNat = n * 256 := by
    rw [BitVec.shiftLeft_eq', BitVec.toNat_shiftLeft, BitVec.toNat_ofNat, show (8#32).toNat = 8 by decide, Nat.shiftLeft_eq]
    omega
  rw [e, show c % 2 ^ 32 = c by omega, show (n * 256 + c) % 2 ^ 32 = n * 256 + c by omega]
  have h2 := Nat.two_pow_add_eq_or_of_lt (i := 8) (b := c) hc n
  rw [show 2 ^ 8 * n = n * 256 by omega] at h2
  exact h2.symm
section FOU
variable (D : va_G) (g : Nat → ClassId) (x : Xd) (l : Launch)
set_option maxHeartbeats 4000000 in
set_option maxRecDepth 100000 in
theorem kL_four (ta tb : Nat) (L : List Nat) (f : Nat → Int32) (hTx : Tx L f) (h128 : ∀ c ∈ L, c < 128) (hL : L.length < 1000) (k : Nat) (hk : k < 1000) : Cn D g x l yL_four cL_four 4 (some .int) 5 300 [.ref ta, .int (nI k)] (stW g ta tb L.length f) (stW g ta tb L.length f) (some (.int (nI (fwN L k)))) := by
  refine CnI (by decide +kernel) (Nat.le_of_ble_eq_true rfl) (fun p e s m args below meth c9 A Q ls X hD hP hS fin hl => ?_)
  obtain ⟨hx, hb, hml, -, -, hown, hts, hK, hA, hE⟩ := id X
  have hl : lv_has ls 4 [(0, .ref ta), (1, .int (nI k))] := hl
  have STEP : ∀ (i acc : Nat) (H : Heap) (locs : List Loc) (ls : Array Slot), i < k + 4 → acc < 8388608 → (∀ (H : Heap) (locs : List Loc) (ls : Array Slot), va_P D vwCl (stW g ta tb L.length f) H → va_D A (stW g ta tb L.length f) → va_S A s.heap H locs → lv_has ls 4 [(3, .int (nI (i + 1))), (2, .int (nI (acc * 256 + chN L i))), (0, .ref ta), (1, .int (nI k))] → W p l e (rmC 5 300 0 0) s m args below meth c9 H locs 0 0 Q (F0 m 4 ls [])) → va_P D vwCl (stW g ta tb L.length f) H → va_D A (stW g ta tb L.length f) → va_S A s.heap H locs → lv_has ls 4 [(3, .int (nI i)), (2, .int (nI acc)), (0, .ref ta), (1, .int (nI k))] → W p l e (rmC 5 300 0 0) s m args below meth c9 H locs 0 0 Q (F0 m 4 ls []) := by
    intro i acc H locs ls hi hacc kk hP hD hS hl
    refine lv_iload_n hx hb dL_four_4 rfl (lv_at hl 0 rfl) ?_
    refine lv_iload_n hx hb dL_four_5 rfl (lv_at hl 3 rfl) ?_
    refine lv_iconst (v := nI 4) hx hb dL_four_6 (by decide +kernel) ?_
    refine lv_iadd hx hb dL_four_7 ?_
    rw [nI_add]
    refine lv_icmp_ge (tgt := 41) hx hb dL_four_8 (by decide) (fun b => absurd b (nI_ge hi (by omega))) (fun _ => ?_)
    refine lv_iload_n hx hb dL_four_11 rfl (lv_at hl 1 rfl) ?_
    refine lv_bipush (v := 8) hx hb dL_four_12 (by decide) ?_
    refine lv_ishl hx hb dL_four_14 ?_
    refine lv_iload_n hx hb dL_four_15 rfl (lv_at hl 0 rfl) ?_
    refine lv_aload_n hx hb dL_four_16 rfl (lv_at hl 2 rfl) ?_
    refine mcallV X (As := []) (rest := [.int (nI i), .int (nI acc <<< ((8 : Int32) &&& 31))]) (ws1 := stW g ta tb L.length f) (st1 := [.int (nI L.length), .int (nI i), .int (nI acc <<< ((8 : Int32) &&& 31))]) (kJ0d_length D g x l ta tb L.length f) mw_J0_length_8abf5 ml_L_22 ⟨(Nat.le_of_ble_eq_true rfl), (Nat.le_of_ble_eq_true rfl)⟩ hP hD hS [0, 1] (by decide +kernel) rfl rfl 0 rfl rfl rfl hl.1 rfl (Nat.le_of_ble_eq_true rfl) dL_four_17 ⟨Nat.le_refl _, Nat.le_refl _⟩ rfl rfl (fun H locs hP hD hS => ?_)
    have JOIN : ∀ (H : Heap) (locs : List Loc), va_P D vwCl (stW g ta tb L.length f) H → va_D A (stW g ta tb L.length f) → va_S A s.heap H locs → W p l e (rmC 5 300 0 0) s m args below meth c9 H locs 0 0 Q (F0 m 33 ls [.int (nI (chN L i)), .int (nI acc <<< ((8 : Int32) &&& 31))]) := by
      intro H locs hP hD hS
      refine lv_ior hx hb dL_four_33 ?_
      rw [sh8 hacc (Nat.lt_trans (chN_b h128 i) (by decide))]
      refine lv_istore_n (lv' := [(2, .int (nI (acc * 256 + chN L i))), (3, .int (nI i)), (0, .ref ta), (1, .int (nI k))]) hx hb dL_four_34 rfl hl (by decide) rfl (fun ls hl => ?_)
      refine lv_iinc (v := nI (i + 1)) (lv' := [(3, .int (nI (i + 1))), (2, .int (nI (acc * 256 + chN L i))), (0, .ref ta), (1, .int (nI k))]) hx hb dL_four_35 hl (k := 1) rfl (nI_1 i) (by decide) rfl (fun ls hl => ?_)
      refine lv_goto (tgt := 4) hx hb dL_four_38 (by decide) ?_
      exact kk H locs ls hP hD hS hl
    refine lv_icmp_ge (tgt := 31) hx hb dL_four_20 (by decide) (fun b => ?_) (fun b => ?_)
    · have hi2 : ¬ i < L.length := fun z => nI_ge z (by omega) b
      refine lv_bipush (v := nI 32) hx hb dL_four_31 (by decide +kernel) ?_
      rw [show (32 : Nat) = chN L i from (if_neg hi2).symm]
      exact JOIN H locs hP hD hS
    · have hi2 : i < L.length := Nat.lt_of_not_le fun z => b (nI_le z (by omega))
      have hc : f i = nI (chN L i) := by
        rw [hTx.2 i hi2]
        unfold chN
        rw [if_pos hi2]
      refine lv_aload_n hx hb dL_four_23 rfl (lv_at hl 2 rfl) ?_
      refine lv_iload_n hx hb dL_four_24 rfl (lv_at hl 0 rfl) ?_
      refine mcallV X (As := [.int (nI i)]) (rest := [.int (nI acc <<< ((8 : Int32) &&& 31))]) (ws1 := stW g ta tb L.length f) (st1 := [.int (nI (chN L i)), .int (nI acc <<< ((8 : Int32) &&& 31))]) (kJ0d_charAt D g x l ta tb L.length f i (chN L i) hi2 (by omega) hc (chN_b h128 i)) mw_J0_charAt_5068e ml_L_28 ⟨(Nat.le_of_ble_eq_true rfl), (Nat.le_of_ble_eq_true rfl)⟩ hP hD hS [0, 1] (by decide +kernel) rfl rfl 0 rfl rfl rfl hl.1 rfl (Nat.le_of_ble_eq_true rfl) dL_four_25 ⟨Nat.le_refl _, Nat.le_refl _⟩ rfl rfl (fun H locs hP hD hS => ?_)
      refine lv_goto (tgt := 33) hx hb dL_four_28 (by decide) ?_
      exact JOIN H locs hP hD hS
  have c0 := chN_b h128 k
  have c1 := chN_b h128 (k + 1)
  have c2 := chN_b h128 (k + 2)
  refine lv_iconst (v := nI 0) hx hb dL_four_0 (by decide +kernel) ?_
  refine lv_istore_n (lv' := [(2, .int (nI 0)), (0, .ref ta), (1, .int (nI k))]) hx hb dL_four_1 rfl hl (by decide) rfl (fun ls hl => ?_)
  refine lv_iload_n hx hb dL_four_2 rfl (lv_at hl 2 rfl) ?_
  refine lv_istore_n (lv' := [(3, .int (nI k)), (2, .int (nI 0)), (0, .ref ta), (1, .int (nI k))]) hx hb dL_four_3 rfl hl (by decide) rfl (fun ls hl => ?_)
  refine STEP k 0 _ _ ls (by omega) (by omega) (fun H locs ls hP hD hS hl => ?_) hP hD hS hl
  refine STEP (k + 1) _ H locs ls (by omega) (by omega) (fun H locs ls hP hD hS hl => ?_) hP hD hS hl
  refine STEP (k + 2) _ H locs ls (by omega) (by omega) (fun H locs ls hP hD hS hl => ?_) hP hD hS hl
  refine STEP (k + 3) _ H locs ls (by omega) (by omega) (fun H locs ls hP hD hS hl => ?_) hP hD hS hl
  refine lv_iload_n hx hb dL_four_4 rfl (lv_at hl 0 rfl) ?_
  refine lv_iload_n hx hb dL_four_5 rfl (lv_at hl 3 rfl) ?_
  refine lv_iconst (v := nI 4) hx hb dL_four_6 (by decide +kernel) ?_
  refine lv_iadd hx hb dL_four_7 ?_
  rw [nI_add]
  refine lv_icmp_ge (tgt := 41) hx hb dL_four_8 (by decide) (fun _ => ?_) (fun b => absurd (nI_le (Nat.le_refl (k + 4)) (by omega)) b)
  refine lv_iload_n hx hb dL_four_41 rfl (lv_at hl 1 rfl) ?_
  rw [show ((0 * 256 + chN L k) * 256 + chN L (k + 1)) * 256 + chN L (k + 2) = (chN L k * 256 + chN L (k + 1)) * 256 + chN L (k + 2) by omega]
  exact fin _ _ _ _ rfl hP hS dL_four_42
set_option maxHeartbeats 4000000 in
set_option maxRecDepth 100000 in
theorem kL_load (ta tb : Nat) (L : List Nat) (f : Nat → Int32) (hTx : Tx L f) (h128 : ∀ c ∈ L, c < 128) (hL : L.length < 380) (a : Nat → Nat) (e9 : Nat → Nat → Nat) (FI : Nat → S6 → Prop) (J : S6 → Prop) (v : Int32) (M : Nat) (hM : L.length ≤ 20 * M ∧ 20 * M < L.length + 20) (hf : ∀ i σ, FI i σ → 20 * i < L.length → ∃ r σ', s6_feed σ (nI (fwN L (20 * i))) (nI (fwN L (20 * i + 4))) (nI (fwN L (20 * i + 8))) (nI (fwN L (20 * i + 12))) (nI (fwN L (20 * i + 16))) = some (r, σ') ∧ FI (i + 1) σ') (hld : ∀ σ, FI M σ → ∃ σ', s6_load σ (nI L.length) = some (0, v, σ') ∧ J σ') (σ : S6) (h0 : FI 0 σ) : CnG D g x l yL_load cL_load 3 (some .int) 9 600 0 0 [.ref (a 0), .ref ta] (stW g ta tb L.length f ++ w6 g a e9 σ) (fun z w => z = some (.int v) ∧ ∃ σ', J σ' ∧ w = stW g ta tb L.length f ++ w6 g a e9 σ') := by
  refine CnG.i (by decide +kernel) (Nat.le_of_ble_eq_true rfl) (fun p e s m args below meth c9 A Q ls X hnm hD hP hS fin hl => ?_)
  obtain ⟨hx, hb, hml, -, -, hown, hts, hK, hA, hE⟩ := id X
  have hl : lv_has ls 3 [(0, .ref (a 0)), (1, .ref ta)] := hl
  have LOOP : ∀ (q i : Nat) (σ : S6) (H : Heap) (locs : List Loc) (ls : Array Slot), i + q = M → FI i σ → va_P D vwCl (stW g ta tb L.length f ++ w6 g a e9 σ) H → va_D A (stW g ta tb L.length f ++ w6 g a e9 σ) → va_S A s.heap H locs → lv_has ls 3 [(2, .int (nI (20 * i))), (0, .ref (a 0)), (1, .ref ta)] → W p l e (rmC 9 600 0 0) s m args below meth c9 H locs 0 0 Q (F0 m 2 ls []) := by
    intro q
    induction q with
    | zero =>
      intro i σ H locs ls hq hFI hP hD hS hl
      have hi : i = M := by omega
      subst hi
      refine lv_iload_n hx hb dL_load_2 rfl (lv_at hl 0 rfl) ?_
      refine lv_aload_n hx hb dL_load_3 rfl (lv_at hl 2 rfl) ?_
      refine mcallV X (As := []) (rest := [.int (nI (20 * i))]) (ws1 := stW g ta tb L.length f ++ w6 g a e9 σ) (st1 := [.int (nI L.length), .int (nI (20 * i))]) (kJ0d_length D g x l ta tb L.length f) mw_J0_length_8abf5 ml_L_22 ⟨(Nat.le_of_ble_eq_true rfl), (Nat.le_of_ble_eq_true rfl)⟩ hP hD hS [0, 1] (by decide +kernel) rfl rfl 0 rfl rfl rfl hl.1 rfl (Nat.le_of_ble_eq_true rfl) dL_load_4 ⟨Nat.le_refl _, Nat.le_refl _⟩ rfl rfl (fun H locs hP hD hS => ?_)
      refine lv_icmp_ge (tgt := 57) hx hb dL_load_7 (by decide) (fun _ => ?_) (fun b => absurd (nI_le hM.1 (by omega)) b)
      refine lv_aload_n hx hb dL_load_57 rfl (lv_at hl 1 rfl) ?_
      refine lv_aload_n hx hb dL_load_58 rfl (lv_at hl 2 rfl) ?_
      refine mcallV X (As := []) (rest := [.ref (a 0)]) (ws1 := stW g ta tb L.length f ++ w6 g a e9 σ) (st1 := [.int (nI L.length), .ref (a 0)]) (kJ0d_length D g x l ta tb L.length f) mw_J0_length_8abf5 ml_L_22 ⟨(Nat.le_of_ble_eq_true rfl), (Nat.le_of_ble_eq_true rfl)⟩ hP hD hS [0, 1] (by decide +kernel) rfl rfl 0 rfl rfl rfl hl.1 rfl (Nat.le_of_ble_eq_true rfl) dL_load_59 ⟨Nat.le_refl _, Nat.le_refl _⟩ rfl rfl (fun H locs hP hD hS => ?_)
      obtain ⟨σ1, e1, j1⟩ := hld σ hFI
      refine c6 X (stW g ta tb L.length f) (As := [.int (nI L.length)]) (rest := []) (st1 := [.int v]) (N6_load D g x l a e9 σ (nI L.length) _ e1 rfl) mw_X6_load ml_L_42 rfl ⟨(Nat.le_of_ble_eq_true rfl), (Nat.le_of_ble_eq_true rfl)⟩ hP hD hS rfl hl.1 rfl (Nat.le_of_ble_eq_true rfl) dL_load_62 ⟨Nat.le_refl _, Nat.le_refl _⟩ rfl (fun H locs hP hD hS => ?_)
      exact fin (some (.int v)) _ _ _ _ _ ⟨rfl, σ1, j1, rfl⟩ (fun z h => by cases h; exact ⟨v, rfl, rfl⟩) (by constructor <;> (intro h; cases h)) hP hD hS dL_load_65
    | succ q ih =>
      intro i σ H locs ls hq hFI hP hD hS hl
      have hi : 20 * i < L.length := by omega
      refine lv_iload_n hx hb dL_load_2 rfl (lv_at hl 0 rfl) ?_
      refine lv_aload_n hx hb dL_load_3 rfl (lv_at hl 2 rfl) ?_
      refine mcallV X (As := []) (rest := [.int (nI (20 * i))]) (ws1 := stW g ta tb L.length f ++ w6 g a e9 σ) (st1 := [.int (nI L.length), .int (nI (20 * i))]) (kJ0d_length D g x l ta tb L.length f) mw_J0_length_8abf5 ml_L_22 ⟨(Nat.le_of_ble_eq_true rfl), (Nat.le_of_ble_eq_true rfl)⟩ hP hD hS [0, 1] (by decide +kernel) rfl rfl 0 rfl rfl rfl hl.1 rfl (Nat.le_of_ble_eq_true rfl) dL_load_4 ⟨Nat.le_refl _, Nat.le_refl _⟩ rfl rfl (fun H locs hP hD hS => ?_)
      refine lv_icmp_ge (tgt := 57) hx hb dL_load_7 (by decide) (fun b => absurd b (nI_ge hi (by omega))) (fun _ => ?_)
      refine lv_aload_n hx hb dL_load_10 rfl (lv_at hl 1 rfl) ?_
      refine lv_aload_n hx hb dL_load_11 rfl (lv_at hl 2 rfl) ?_
      refine lv_iload_n hx hb dL_load_12 rfl (lv_at hl 0 rfl) ?_
      refine mcallS X (As := [.ref ta, .int (nI (20 * i))]) (rest := [.ref (a 0)]) (ws1 := stW g ta tb L.length f ++ w6 g a e9 σ) (st1 := [.int (nI (fwN L (20 * i))), .ref (a 0)]) (kL_four D g x l ta tb L f hTx h128 (by omega) (20 * i) (by omega)) mw_L_four ml_L_32 ⟨(Nat.le_of_ble_eq_true rfl), (Nat.le_of_ble_eq_true rfl)⟩ hP hD hS [0, 1] (by decide +kernel) rfl rfl rfl hl.1 rfl (Nat.le_of_ble_eq_true rfl) dL_load_13 ⟨Nat.le_refl _, Nat.le_refl _⟩ rfl rfl (fun H locs hP hD hS => ?_)
      refine lv_aload_n hx hb dL_load_16 rfl (lv_at hl 2 rfl) ?_
      refine lv_iload_n hx hb dL_load_17 rfl (lv_at hl 0 rfl) ?_
      refine lv_iconst (v := nI 4) hx hb dL_load_18 (by decide +kernel) ?_
      refine lv_iadd hx hb dL_load_19 ?_
      rw [nI_add]
      refine mcallS X (As := [.ref ta, .int (nI (20 * i + 4))]) (rest := [.int (nI (fwN L (20 * i))), .ref (a 0)]) (ws1 := stW g ta tb L.length f ++ w6 g a e9 σ) (st1 := [.int (nI (fwN L (20 * i + 4))), .int (nI (fwN L (20 * i))), .ref (a 0)]) (kL_four D g x l ta tb L f hTx h128 (by omega) (20 * i + 4) (by omega)) mw_L_four ml_L_32 ⟨(Nat.le_of_ble_eq_true rfl), (Nat.le_of_ble_eq_true rfl)⟩ hP hD hS [0, 1] (by decide +kernel) rfl rfl rfl hl.1 rfl (Nat.le_of_ble_eq_true rfl) dL_load_20 ⟨Nat.le_refl _, Nat.le_refl _⟩ rfl rfl (fun H locs hP hD hS => ?_)
      refine lv_aload_n hx hb dL_load_23 rfl (lv_at hl 2 rfl) ?_
      refine lv_iload_n hx hb dL_load_24 rfl (lv_at hl 0 rfl) ?_
      refine lv_bipush (v := nI 8) hx hb dL_load_25 (by decide +kernel) ?_
      refine lv_iadd hx hb dL_load_27 ?_
      rw [nI_add]
      refine mcallS X (As := [.ref ta, .int (nI (20 * i + 8))]) (rest := [.int (nI (fwN L (20 * i + 4))), .int (nI (fwN L (20 * i))), .ref (a 0)]) (ws1 := stW g ta tb L.length f ++ w6 g a e9 σ) (st1 := [.int (nI (fwN L (20 * i + 8))), .int (nI (fwN L (20 * i + 4))), .int (nI (fwN L (20 * i))), .ref (a 0)]) (kL_four D g x l ta tb L f hTx h128 (by omega) (20 * i + 8) (by omega)) mw_L_four ml_L_32 ⟨(Nat.le_of_ble_eq_true rfl), (Nat.le_of_ble_eq_true rfl)⟩ hP hD hS [0, 1] (by decide +kernel) rfl rfl rfl hl.1 rfl (Nat.le_of_ble_eq_true rfl) dL_load_28 ⟨Nat.le_refl _, Nat.le_refl _⟩ rfl rfl (fun H locs hP hD hS => ?_)
      refine lv_aload_n hx hb dL_load_31 rfl (lv_at hl 2 rfl) ?_
      refine lv_iload_n hx hb dL_load_32 rfl (lv_at hl 0 rfl) ?_
      refine lv_bipush (v := nI 12) hx hb dL_load_33 (by decide +kernel) ?_
      refine lv_iadd hx hb dL_load_35 ?_
      rw [nI_add]
      refine mcallS X (As := [.ref ta, .int (nI (20 * i + 12))]) (rest := [.int (nI (fwN L (20 * i + 8))), .int (nI (fwN L (20 * i + 4))), .int (nI (fwN L (20 * i))), .ref (a 0)]) (ws1 := stW g ta tb L.length f ++ w6 g a e9 σ) (st1 := [.int (nI (fwN L (20 * i + 12))), .int (nI (fwN L (20 * i + 8))), .int (nI (fwN L (20 * i + 4))), .int (nI (fwN L (20 * i))), .ref (a 0)]) (kL_four D g x l ta tb L f hTx h128 (by omega) (20 * i + 12) (by omega)) mw_L_four ml_L_32 ⟨(Nat.le_of_ble_eq_true rfl), (Nat.le_of_ble_eq_true rfl)⟩ hP hD hS [0, 1] (by decide +kernel) rfl rfl rfl hl.1 rfl (Nat.le_of_ble_eq_true rfl) dL_load_36 ⟨Nat.le_refl _, Nat.le_refl _⟩ rfl rfl (fun H locs hP hD hS => ?_)
      refine lv_aload_n hx hb dL_load_39 rfl (lv_at hl 2 rfl) ?_
      refine lv_iload_n hx hb dL_load_40 rfl (lv_at hl 0 rfl) ?_
      refine lv_bipush (v := nI 16) hx hb dL_load_41 (by decide +kernel) ?_
      refine lv_iadd hx hb dL_load_43 ?_
      rw [nI_add]
      refine mcallS X (As := [.ref ta, .int (nI (20 * i + 16))]) (rest := [.int (nI (fwN L (20 * i + 12))), .int (nI (fwN L (20 * i + 8))), .int (nI (fwN L (20 * i + 4))), .int (nI (fwN L (20 * i))), .ref (a 0)]) (ws1 := stW g ta tb L.length f ++ w6 g a e9 σ) (st1 := [.int (nI (fwN L (20 * i + 16))), .int (nI (fwN L (20 * i + 12))), .int (nI (fwN L (20 * i + 8))), .int (nI (fwN L (20 * i + 4))), .int (nI (fwN L (20 * i))), .ref (a 0)]) (kL_four D g x l ta tb L f hTx h128 (by omega) (20 * i + 16) (by omega)) mw_L_four ml_L_32 ⟨(Nat.le_of_ble_eq_true rfl), (Nat.le_of_ble_eq_true rfl)⟩ hP hD hS [0, 1] (by decide +kernel) rfl rfl rfl hl.1 rfl (Nat.le_of_ble_eq_true rfl) dL_load_44 ⟨Nat.le_refl _, Nat.le_refl _⟩ rfl rfl (fun H locs hP hD hS => ?_)
      obtain ⟨r, σ1, e1, f1⟩ := hf i σ hFI hi
      refine c6 X (stW g ta tb L.length f) (As := [.int (nI (fwN L (20 * i))), .int (nI (fwN L (20 * i + 4))), .int (nI (fwN L (20 * i + 8))), .int (nI (fwN L (20 * i + 12))), .int (nI (fwN L (20 * i + 16)))]) (rest := []) (st1 := [.int r]) (K6_feed D g x l a e9 σ (nI (fwN L (20 * i))) (nI (fwN L (20 * i + 4))) (nI (fwN L (20 * i + 8))) (nI (fwN L (20 * i + 12))) (nI (fwN L (20 * i + 16))) _ e1) mw_X6_feed ml_L_36 rfl ⟨(Nat.le_of_ble_eq_true rfl), (Nat.le_of_ble_eq_true rfl)⟩ hP hD hS rfl hl.1 rfl (Nat.le_of_ble_eq_true rfl) dL_load_47 ⟨Nat.le_refl _, Nat.le_refl _⟩ rfl (fun H locs hP hD hS => ?_)
      refine lv_pop hx hb dL_load_50 rfl ?_
      refine lv_iinc (v := nI (20 * (i + 1))) (lv' := [(2, .int (nI (20 * (i + 1)))), (0, .ref (a 0)), (1, .ref ta)]) hx hb dL_load_51 hl (k := 0) rfl (show nI (20 * i) + nI 20 = nI (20 * (i + 1)) from nI_add _ _) (by decide) rfl (fun ls hl => ?_)
      refine lv_goto (tgt := 2) hx hb dL_load_54 (by decide) ?_
      exact ih (i + 1) σ1 H locs ls (by omega) f1 hP hD hS hl
  refine lv_iconst (v := nI 0) hx hb dL_load_0 (by decide +kernel) ?_
  refine lv_istore_n (lv' := [(2, .int (nI 0)), (0, .ref (a 0)), (1, .ref ta)]) hx hb dL_load_1 rfl hl (by decide) rfl (fun ls hl => ?_)
  exact LOOP M 0 σ _ _ ls (by omega) h0 hP hD hS hl
end FOU
