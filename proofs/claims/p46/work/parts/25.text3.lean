/-! Numbers as letters. -/
theorem z3_nI {n : Nat} (h : n < 2 ^ 31) : z3 (n : Int) = nI n := Int32.toInt_inj.mp (by rw [z3t (by omega) (by omega), nI_toInt h])
def dgN (k : Nat) : List Nat := if k < 10 then [48 + k] else [48 + k / 10, 48 + k % 10]
/-- a number from -99 to 99 as letters -/
def dcN (v : Int) : List Nat := if v < 0 then 45 :: dgN v.natAbs else dgN v.natAbs
def gc1 (k p : Nat) (F : Nat → Int32) : Nat → Int32 := if k < 10 then upd F (p - 1) (nI (48 + k % 10)) else upd (upd F (p - 1) (nI (48 + k % 10))) (p - 1 - 1) (nI (48 + k / 10))
/-- what getChars leaves, its end at p -/
def gcF (v : Int) (p : Nat) (F : Nat → Int32) : Nat → Int32 := if v < 0 then upd (gc1 v.natAbs p F) (p - (if v.natAbs < 10 then 1 else 2) - 1) (nI 45) else gc1 v.natAbs p F
theorem dcN_len (v : Int) : (dcN v).length = (if v < 0 then 1 else 0) + (if v.natAbs < 10 then 1 else 2) := by
  unfold dcN dgN
  by_cases h : v < 0 <;> by_cases k : v.natAbs < 10 <;> simp [h, k]
theorem dcN_le (v : Int) : (dcN v).length ≤ 3 := by
  rw [dcN_len]
  split <;> split <;> omega
theorem vnb : ∀ c, c < 128 → vp_nar .byte (nI c) = nI c := by decide +kernel
theorem fnb : ∀ c, c < 128 → fits .byte (.int (nI c)) = true := by decide +kernel
theorem Tx.two {L : List Nat} {f : Nat → Int32} (hf : Tx L f) {a b : Nat} (ha : a < 128) (hb : b < 128) {n : Nat} (hn : n = L.length) : Tx (L ++ [a, b]) (upd (upd f (n + 1) (nI b)) n (nI a)) := by
  subst hn
  refine ⟨sb_fitU (sb_fitU hf.1 (fnb b hb)) (fnb a ha), fun i hi => ?_⟩
  rw [List.length_append] at hi
  have hi : i < L.length + 2 := hi
  rw [List.getD_eq_getElem?_getD]
  by_cases q : i = L.length
  · subst q
    rw [pk_us, List.getElem?_append_right (Nat.le_refl _), Nat.sub_self]
    rfl
  · by_cases q1 : i = L.length + 1
    · subst q1
      rw [pk_un (by omega), pk_us, List.getElem?_append_right (by omega), show L.length + 1 - L.length = 1 by omega]
      rfl
    · rw [pk_un q, pk_un q1, hf.2 i (by omega), List.getD_eq_getElem?_getD, List.getElem?_append_left (by omega)]
theorem Tx.dg {L : List Nat} {f : Nat → Int32} (hf : Tx L f) {k : Nat} (hk : k < 100) {p : Nat} (hp : p = L.length + (if k < 10 then 1 else 2)) : Tx (L ++ dgN k) (gc1 k p f) := by
  unfold dgN gc1
  by_cases h : k < 10
  · rw [if_pos h] at hp
    rw [if_pos h, if_pos h, show k % 10 = k by omega]
    exact hf.snoc (by omega) (by omega)
  · rw [if_neg h] at hp
    rw [if_neg h, if_neg h]
    have := hf.two (a := 48 + k / 10) (b := 48 + k % 10) (by omega) (by omega) (n := p - 1 - 1) (by omega)
    rw [show p - 1 - 1 + 1 = p - 1 by omega] at this
    exact this
theorem Tx.dc {L : List Nat} {f : Nat → Int32} (hf : Tx L f) {v : Int} (h0 : -99 ≤ v) (h1 : v ≤ 99) {p : Nat} (hp : p = (L ++ dcN v).length) : Tx (L ++ dcN v) (gcF v p f) := by
  rw [List.length_append, dcN_len] at hp
  unfold dcN gcF
  by_cases h : v < 0
  · rw [if_pos h] at hp
    rw [if_pos h, if_pos h]
    have key : Tx ((L ++ [45]) ++ dgN v.natAbs) (gc1 v.natAbs p (upd f L.length (nI 45))) := (hf.snoc (by decide) rfl).dg (by omega) (by rw [List.length_append]; show p = L.length + 1 + _; omega)
    have e : (L ++ [45]) ++ dgN v.natAbs = L ++ 45 :: dgN v.natAbs := by rw [List.append_assoc]; rfl
    rw [e] at key
    refine key.keep ?_ (fun i hi => ?_)
    · refine sb_fitU ?_ (fnb 45 (by decide))
      unfold gc1
      split
      · exact sb_fitU hf.1 (fnb _ (by omega))
      · exact sb_fitU (sb_fitU hf.1 (fnb _ (by omega))) (fnb _ (by omega))
    · have hn : p - (if v.natAbs < 10 then 1 else 2) - 1 = L.length := by omega
      rw [hn]
      by_cases q : i = L.length
      · subst q
        rw [pk_us]
        unfold gc1
        split
        · rename_i z
          rw [if_pos z] at hp
          rw [pk_un (by omega), pk_us]
        · rename_i z
          rw [if_neg z] at hp
          rw [pk_un (by omega), pk_un (by omega), pk_us]
      · rw [pk_un q]
        have hu : ∀ (G : Nat → Int32) (j : Nat) (y : Int32), upd (upd f L.length (nI 45)) j y i = upd f j y i := fun _ j y => by
          by_cases z : i = j
          · subst z; rw [pk_us, pk_us]
          · rw [pk_un z, pk_un z, pk_un q]
        unfold gc1
        split
        · exact (hu f _ _).symm
        · by_cases z : i = p - 1 - 1
          · rw [z, pk_us, pk_us]
          · rw [pk_un z, pk_un z]
            exact (hu f _ _).symm
  · rw [if_neg h] at hp
    rw [if_neg h, if_neg h]
    exact hf.dg (by omega) (by omega)
section TXN
variable (D : va_G) (g : Nat → ClassId) (x : Xd) (l : Launch)
set_option maxHeartbeats 4000000 in
set_option maxRecDepth 100000 in
theorem kJ6_stringSize (v : Int) (h0 : -99 ≤ v) (h1 : v ≤ 99) : Cn D g x l yJ6_stringSize_0f7a4 cJ6_stringSize_0f7a4 4 (some .int) 0 0 [.int (z3 v)] [] [] (some (.int (nI (dcN v).length))) := by
  refine CnI (by decide +kernel) (Nat.le_of_ble_eq_true rfl) (fun p e s m args below meth c9 A Q ls X hD hP hS fin hl => ?_)
  obtain ⟨hx, hb, hml, -, -, hown, hts, hK, hA, hE⟩ := id X
  have hl : lv_has ls 4 [(0, .int (z3 v))] := hl
  have tl : ∀ (d : Nat) (ls : Array Slot), (dcN v).length = d + (if v.natAbs < 10 then 1 else 2) → lv_has ls 4 [(0, .int (z3 (-(v.natAbs : Int)))), (1, .int (nI d))] → W p l e (rmF 0 0) s m args below meth c9 s.heap [] 0 0 Q (F0 m 11 ls []) := by
    intro d ls hd hl
    refine lv_bipush (v := z3 (-10)) hx hb dJ6_stringSize_0f7a4_11 (by decide +kernel) ?_
    refine lv_istore_n (lv' := [(2, .int (z3 (-10))), (0, .int (z3 (-(v.natAbs : Int)))), (1, .int (nI d))]) hx hb dJ6_stringSize_0f7a4_13 rfl hl (by decide) rfl (fun ls hl => ?_)
    refine lv_iconst (v := nI 1) hx hb dJ6_stringSize_0f7a4_14 (by decide) ?_
    refine lv_istore_n (lv' := [(3, .int (nI 1)), (2, .int (z3 (-10))), (0, .int (z3 (-(v.natAbs : Int)))), (1, .int (nI d))]) hx hb dJ6_stringSize_0f7a4_15 rfl hl (by decide) rfl (fun ls hl => ?_)
    refine lv_iload_n hx hb dJ6_stringSize_0f7a4_16 rfl (lv_at hl 0 rfl) ?_
    refine lv_bipush (v := nI 10) hx hb dJ6_stringSize_0f7a4_17 (by decide +kernel) ?_
    refine lv_icmp_ge (tgt := 42) hx hb dJ6_stringSize_0f7a4_19 (by decide) (fun h => absurd h (by decide)) (fun _ => ?_)
    refine lv_iload_n hx hb dJ6_stringSize_0f7a4_22 rfl (lv_at hl 2 rfl) ?_
    refine lv_iload_n hx hb dJ6_stringSize_0f7a4_23 rfl (lv_at hl 1 rfl) ?_
    refine lv_icmp_le (tgt := 31) hx hb dJ6_stringSize_0f7a4_24 (by decide) (fun h => ?_) (fun h => ?_)
    · have h : 10 ≤ v.natAbs := by
        have := (z3le (by omega) (by omega) (by omega) (by omega)).1 h
        omega
      rw [if_neg (by omega)] at hd
      refine lv_bipush (v := z3 10) hx hb dJ6_stringSize_0f7a4_31 (by decide +kernel) ?_
      refine lv_iload_n hx hb dJ6_stringSize_0f7a4_33 rfl (lv_at hl 1 rfl) ?_
      refine lv_imul hx hb dJ6_stringSize_0f7a4_34 ?_
      rw [z3m]
      refine lv_istore_n (lv' := [(2, .int (z3 (10 * -10))), (3, .int (nI 1)), (0, .int (z3 (-(v.natAbs : Int)))), (1, .int (nI d))]) hx hb dJ6_stringSize_0f7a4_35 rfl hl (by decide) rfl (fun ls hl => ?_)
      refine lv_iinc (v := nI 2) (lv' := [(3, .int (nI 2)), (2, .int (z3 (10 * -10))), (0, .int (z3 (-(v.natAbs : Int)))), (1, .int (nI d))]) hx hb dJ6_stringSize_0f7a4_36 hl (k := 1) rfl (by decide) (by decide) rfl (fun ls hl => ?_)
      refine lv_goto (tgt := 16) hx hb dJ6_stringSize_0f7a4_39 (by decide) ?_
      refine lv_iload_n hx hb dJ6_stringSize_0f7a4_16 rfl (lv_at hl 0 rfl) ?_
      refine lv_bipush (v := nI 10) hx hb dJ6_stringSize_0f7a4_17 (by decide +kernel) ?_
      refine lv_icmp_ge (tgt := 42) hx hb dJ6_stringSize_0f7a4_19 (by decide) (fun h => absurd h (by decide)) (fun _ => ?_)
      refine lv_iload_n hx hb dJ6_stringSize_0f7a4_22 rfl (lv_at hl 2 rfl) ?_
      refine lv_iload_n hx hb dJ6_stringSize_0f7a4_23 rfl (lv_at hl 1 rfl) ?_
      refine lv_icmp_le (tgt := 31) hx hb dJ6_stringSize_0f7a4_24 (by decide) (fun h => ?_) (fun _ => ?_)
      · have := (z3le (by omega) (by omega) (by omega) (by omega)).1 h
        omega
      · refine lv_iload_n hx hb dJ6_stringSize_0f7a4_27 rfl (lv_at hl 0 rfl) ?_
        refine lv_iload_n hx hb dJ6_stringSize_0f7a4_28 rfl (lv_at hl 3 rfl) ?_
        refine lv_iadd hx hb dJ6_stringSize_0f7a4_29 ?_
        rw [nI_add, show 2 + d = (dcN v).length by omega]
        exact fin _ _ _ _ rfl hP hS dJ6_stringSize_0f7a4_30
    · have h : v.natAbs < 10 := by
        have := mt (z3le (a := -(v.natAbs : Int)) (b := -10) (by omega) (by omega) (by omega) (by omega)).2 h
        omega
      rw [if_pos h] at hd
      refine lv_iload_n hx hb dJ6_stringSize_0f7a4_27 rfl (lv_at hl 0 rfl) ?_
      refine lv_iload_n hx hb dJ6_stringSize_0f7a4_28 rfl (lv_at hl 3 rfl) ?_
      refine lv_iadd hx hb dJ6_stringSize_0f7a4_29 ?_
      rw [nI_add, show 1 + d = (dcN v).length by omega]
      exact fin _ _ _ _ rfl hP hS dJ6_stringSize_0f7a4_30
  have hlen := dcN_len v
  refine lv_iconst (v := nI 1) hx hb dJ6_stringSize_0f7a4_0 (by decide) ?_
  refine lv_istore_n (lv' := [(1, .int (nI 1)), (0, .int (z3 v))]) hx hb dJ6_stringSize_0f7a4_1 rfl hl (by decide) rfl (fun ls hl => ?_)
  refine lv_iload_n hx hb dJ6_stringSize_0f7a4_2 rfl (lv_at hl 1 rfl) ?_
  refine lv_if_lt (tgt := 11) hx hb dJ6_stringSize_0f7a4_3 (by decide) (fun h => ?_) (fun h => ?_)
  · have h : v < 0 := (z3lt (b := 0) (by omega) (by omega) (by omega) (by omega)).1 h
    rw [if_pos h] at hlen
    refine tl 1 ls hlen ?_
    rw [show (-(v.natAbs : Int)) = v by omega]
    exact lv_sub hl [1, 0] rfl
  · have h : ¬ v < 0 := mt (z3lt (a := v) (b := 0) (by omega) (by omega) (by omega) (by omega)).2 h
    rw [if_neg h] at hlen
    refine lv_iconst (v := nI 0) hx hb dJ6_stringSize_0f7a4_6 (by decide) ?_
    refine lv_istore_n (lv' := [(1, .int (nI 0)), (0, .int (z3 v))]) hx hb dJ6_stringSize_0f7a4_7 rfl hl (by decide) rfl (fun ls hl => ?_)
    refine lv_iload_n hx hb dJ6_stringSize_0f7a4_8 rfl (lv_at hl 1 rfl) ?_
    refine lv_ineg hx hb dJ6_stringSize_0f7a4_9 ?_
    rw [z3n, show -v = (-(v.natAbs : Int)) by omega]
    refine lv_istore_n (lv' := [(0, .int (z3 (-(v.natAbs : Int)))), (1, .int (nI 0))]) hx hb dJ6_stringSize_0f7a4_10 rfl hl (by decide) rfl (fun ls hl => ?_)
    exact tl 0 ls hlen hl
set_option maxHeartbeats 4000000 in
set_option maxRecDepth 100000 in
theorem kJ6_getChars (v : Int) (h0 : -99 ≤ v) (h1 : v ≤ 99) (r cap p n : Nat) (F : Nat → Int32) (hp : p = n + (dcN v).length) (hpc : p ≤ cap) (hcap : cap < 65536) : Cn D g x l yJ6_getChars_ba4f3 cJ6_getChars_ba4f3 7 (some .int) 0 0 [.int (z3 v), .int (nI p), .ref r] [(r, .inl (g 3, cap, .inl F))] [(r, .inl (g 3, cap, .inl (gcF v p F)))] (some (.int (nI n))) := by
  rw [dcN_len] at hp
  have hk : v.natAbs < 100 := by omega
  refine CnI (by decide +kernel) (Nat.le_of_ble_eq_true rfl) (fun p9 e s m args below meth c9 A Q ls X hD hP hS fin hl => ?_)
  obtain ⟨hx, hb, hml, -, -, hown, hts, hK, hA, hE⟩ := id X
  have hl : lv_has ls 7 [(0, .int (z3 v)), (1, .int (nI p)), (2, .ref r)] := hl
  obtain ⟨⟨t1, hZ1, hT1⟩, ⟨t2, hZ2, hT2⟩⟩ := hE.2.2.2.2.2.2.2.2.2.2.2.2.2.2
  -- the sign, at 104
  have t3 : ∀ (H : Heap) (locs : List Loc) (ls : Array Slot) (j : Nat) (G : Nat → Int32), j = n + (if v < 0 then 1 else 0) → (if v < 0 then upd G (j - 1) (nI 45) else G) = gcF v p F → va_P D vwCl [(r, .inl (g 3, cap, .inl G))] H → va_D A [(r, .inl (g 3, cap, .inl G))] → va_S A s.heap H locs → lv_has ls 7 [(5, .int (nI j)), (6, .int (if v < 0 then 1 else 0)), (2, .ref r)] → W p9 l e (rmF 0 0) s m args below meth c9 H locs 0 0 Q (F0 m 104 ls []) := by
    intro H locs ls j G hj hG hP hD hS hl
    by_cases h : v < 0
    · rw [if_pos h] at hj hG hl
      have hj2 : j - 1 < cap := by
        rw [if_pos h] at hp
        split at hp <;> omega
      refine lv_iload hx hb dJ6_getChars_ba4f3_104 (lv_at hl 1 rfl) ?_
      refine lv_if_eq (tgt := 118) hx hb dJ6_getChars_ba4f3_106 (by decide) (fun q => absurd q (by decide)) (fun _ => ?_)
      refine lv_aload_n hx hb dJ6_getChars_ba4f3_109 rfl (lv_at hl 2 rfl) ?_
      refine lv_iinc (v := nI (j - 1)) (lv' := [(5, .int (nI (j - 1))), (6, .int 1), (2, .ref r)]) hx hb dJ6_getChars_ba4f3_110 hl (k := 0) rfl (sb_m1 (by omega)) (by decide) rfl (fun ls hl => ?_)
      refine lv_iload hx hb dJ6_getChars_ba4f3_113 (lv_at hl 0 rfl) ?_
      refine lv_bipush (v := nI 45) hx hb dJ6_getChars_ba4f3_115 (by decide +kernel) ?_
      refine va_bast hx hb hK hP hD hS 0 3 (f := G) rfl rfl (vp_in_nI hj2 (by omega)) dJ6_getChars_ba4f3_117 (fun H locs hP hD hS => ?_)
      rw [nI_clamp (by omega), vnb 45 (by decide)] at hP
      refine lv_iload hx hb dJ6_getChars_ba4f3_118 (lv_at hl 0 rfl) ?_
      rw [show j - 1 = n by omega]
      have hP : va_P D vwCl [(r, .inl (g 3, cap, .inl (upd G (j - 1) (nI 45))))] H := hP
      rw [hG] at hP
      exact fin _ _ _ _ rfl hP hS dJ6_getChars_ba4f3_120
    · rw [if_neg h] at hj hG hl
      subst hG
      refine lv_iload hx hb dJ6_getChars_ba4f3_104 (lv_at hl 1 rfl) ?_
      refine lv_if_eq (tgt := 118) hx hb dJ6_getChars_ba4f3_106 (by decide) (fun _ => ?_) (fun q => absurd rfl q)
      refine lv_iload hx hb dJ6_getChars_ba4f3_118 (lv_at hl 0 rfl) ?_
      rw [show j = n by omega]
      exact fin _ _ _ _ rfl hP hS dJ6_getChars_ba4f3_120
  have hneg : ∀ k : Nat, k < 100 → -z3 (-(k : Int)) = nI k := fun k hk => by rw [z3n, Int.neg_neg, z3_nI (by omega)]
  have t2 : ∀ (ls : Array Slot), lv_has ls 7 [(0, .int (z3 (-(v.natAbs : Int)))), (6, .int (if v < 0 then 1 else 0)), (5, .int (nI p)), (2, .ref r)] → W p9 l e (rmF 0 0) s m args below meth c9 s.heap [] 0 0 Q (F0 m 22 ls []) := by
    intro ls hl
    refine lv_iload_n hx hb dJ6_getChars_ba4f3_22 rfl (lv_at hl 0 rfl) ?_
    refine lv_bipush (v := z3 (-100)) hx hb dJ6_getChars_ba4f3_23 (by decide +kernel) ?_
    refine lv_icmp_gt (tgt := 72) hx hb dJ6_getChars_ba4f3_25 (by decide) (fun _ => ?_) (fun q => absurd ((z3lt (by omega) (by omega) (by omega) (by omega)).2 (by omega)) q)
    refine lv_aload_n hx hb dJ6_getChars_ba4f3_72 rfl (lv_at hl 3 rfl) ?_
    have hp1 : 0 < p := by split at hp <;> split at hp <;> omega
    refine lv_iinc (v := nI (p - 1)) (lv' := [(5, .int (nI (p - 1))), (0, .int (z3 (-(v.natAbs : Int)))), (6, .int (if v < 0 then 1 else 0)), (2, .ref r)]) hx hb dJ6_getChars_ba4f3_73 hl (k := 2) rfl (sb_m1 hp1) (by decide) rfl (fun ls hl => ?_)
    refine lv_iload hx hb dJ6_getChars_ba4f3_76 (lv_at hl 0 rfl) ?_
    refine va_gets hx hb hZ1 hS hown (hts _ fs_J6_83) (fun _ h => h) dJ6_getChars_ba4f3_78 ?_
    refine lv_iload_n hx hb dJ6_getChars_ba4f3_81 rfl (lv_at hl 1 rfl) ?_
    refine lv_ineg hx hb dJ6_getChars_ba4f3_82 ?_
    rw [hneg _ hk]
    refine va_tb hx hb hT1 hS (vp_in_nI hk (by omega)) (v := .int (nI (48 + v.natAbs % 10))) (by rw [nI_clamp (by omega)]) dJ6_getChars_ba4f3_83 ?_
    refine va_bast hx hb hK hP hD hS 0 3 (f := F) rfl rfl (vp_in_nI (by omega) (by omega)) dJ6_getChars_ba4f3_84 (fun H locs hP hD hS => ?_)
    rw [nI_clamp (by omega), vnb _ (by omega)] at hP hD
    have hP : va_P D vwCl [(r, .inl (g 3, cap, .inl (upd F (p - 1) (nI (48 + v.natAbs % 10)))))] H := hP
    have hD : va_D A [(r, .inl (g 3, cap, .inl (upd F (p - 1) (nI (48 + v.natAbs % 10)))))] := hD
    refine lv_iload_n hx hb dJ6_getChars_ba4f3_85 rfl (lv_at hl 1 rfl) ?_
    refine lv_bipush (v := z3 (-9)) hx hb dJ6_getChars_ba4f3_86 (by decide +kernel) ?_
    refine lv_icmp_ge (tgt := 104) hx hb dJ6_getChars_ba4f3_88 (by decide) (fun q => ?_) (fun q => ?_)
    · have q : v.natAbs < 10 := by
        have := (z3le (by omega) (by omega) (by omega) (by omega)).1 q
        omega
      rw [if_pos q] at hp
      refine t3 H _ ls (p - 1) (upd F (p - 1) (nI (48 + v.natAbs % 10))) (by split at hp <;> rename_i z <;> simp only [z, if_true, if_false] <;> omega) ?_ hP hD hS (lv_sub hl [0, 2, 3] rfl)
      unfold gcF gc1
      rw [if_pos q, if_pos q]
    · have q : ¬ v.natAbs < 10 := by
        have := mt (z3le (a := -9) (b := -(v.natAbs : Int)) (by omega) (by omega) (by omega) (by omega)).2 q
        omega
      rw [if_neg q] at hp
      refine lv_aload_n hx hb dJ6_getChars_ba4f3_91 rfl (lv_at hl 3 rfl) ?_
      refine lv_iinc (v := nI (p - 1 - 1)) (lv' := [(5, .int (nI (p - 1 - 1))), (0, .int (z3 (-(v.natAbs : Int)))), (6, .int (if v < 0 then 1 else 0)), (2, .ref r)]) hx hb dJ6_getChars_ba4f3_92 hl (k := 0) rfl (sb_m1 (by split at hp <;> omega)) (by decide) rfl (fun ls hl => ?_)
      refine lv_iload hx hb dJ6_getChars_ba4f3_95 (lv_at hl 0 rfl) ?_
      refine va_gets hx hb hZ2 hS hown (hts _ fs_J6_87) (fun _ h => h) dJ6_getChars_ba4f3_97 ?_
      refine lv_iload_n hx hb dJ6_getChars_ba4f3_100 rfl (lv_at hl 1 rfl) ?_
      refine lv_ineg hx hb dJ6_getChars_ba4f3_101 ?_
      rw [hneg _ hk]
      refine va_tb hx hb hT2 hS (vp_in_nI hk (by omega)) (v := .int (nI (48 + v.natAbs / 10))) (by rw [nI_clamp (by omega)]) dJ6_getChars_ba4f3_102 ?_
      refine va_bast hx hb hK hP hD hS 0 3 (f := upd F (p - 1) (nI (48 + v.natAbs % 10))) rfl rfl (vp_in_nI (by omega) (by omega)) dJ6_getChars_ba4f3_103 (fun H locs hP hD hS => ?_)
      rw [nI_clamp (by omega), vnb _ (by omega)] at hP hD
      refine t3 H _ ls (p - 1 - 1) (upd (upd F (p - 1) (nI (48 + v.natAbs % 10))) (p - 1 - 1) (nI (48 + v.natAbs / 10))) (by split at hp <;> rename_i z <;> simp only [z, if_true, if_false] <;> omega) ?_ hP hD hS (lv_sub hl [0, 2, 3] rfl)
      unfold gcF gc1
      rw [if_neg q, if_neg q, show p - 2 - 1 = p - 1 - 1 - 1 by omega]
  refine lv_iload_n hx hb dJ6_getChars_ba4f3_0 rfl (lv_at hl 1 rfl) ?_
  refine lv_istore (lv' := [(5, .int (nI p)), (0, .int (z3 v)), (1, .int (nI p)), (2, .ref r)]) hx hb dJ6_getChars_ba4f3_1 hl (by decide) rfl (fun ls hl => ?_)
  refine lv_iload_n hx hb dJ6_getChars_ba4f3_3 rfl (lv_at hl 1 rfl) ?_
  refine lv_if_ge (tgt := 11) hx hb dJ6_getChars_ba4f3_4 (by decide) (fun h => ?_) (fun h => ?_)
  · have h : ¬ v < 0 := by
      have := (z3le (a := 0) (by omega) (by omega) (by omega) (by omega)).1 h
      omega
    rw [if_neg h] at t2
    refine lv_iconst (v := 0) hx hb dJ6_getChars_ba4f3_11 (by decide) ?_
    refine lv_istore (lv' := [(6, .int 0), (5, .int (nI p)), (0, .int (z3 v)), (1, .int (nI p)), (2, .ref r)]) hx hb dJ6_getChars_ba4f3_12 hl (by decide) rfl (fun ls hl => ?_)
    refine lv_iload hx hb dJ6_getChars_ba4f3_14 (lv_at hl 0 rfl) ?_
    refine lv_if_ne (tgt := 22) hx hb dJ6_getChars_ba4f3_16 (by decide) (fun q => absurd rfl q) (fun _ => ?_)
    refine lv_iload_n hx hb dJ6_getChars_ba4f3_19 rfl (lv_at hl 2 rfl) ?_
    refine lv_ineg hx hb dJ6_getChars_ba4f3_20 ?_
    rw [z3n, show -v = (-(v.natAbs : Int)) by omega]
    refine lv_istore_n (lv' := [(0, .int (z3 (-(v.natAbs : Int)))), (6, .int 0), (5, .int (nI p)), (1, .int (nI p)), (2, .ref r)]) hx hb dJ6_getChars_ba4f3_21 rfl hl (by decide) rfl (fun ls hl => ?_)
    exact t2 ls (lv_sub hl [0, 1, 2, 4] rfl)
  · have h : v < 0 := by
      have := mt (z3le (a := 0) (b := v) (by omega) (by omega) (by omega) (by omega)).2 h
      omega
    rw [if_pos h] at t2
    refine lv_iconst (v := 1) hx hb dJ6_getChars_ba4f3_7 (by decide) ?_
    refine lv_goto (tgt := 12) hx hb dJ6_getChars_ba4f3_8 (by decide) ?_
    refine lv_istore (lv' := [(6, .int 1), (5, .int (nI p)), (0, .int (z3 v)), (1, .int (nI p)), (2, .ref r)]) hx hb dJ6_getChars_ba4f3_12 hl (by decide) rfl (fun ls hl => ?_)
    refine lv_iload hx hb dJ6_getChars_ba4f3_14 (lv_at hl 0 rfl) ?_
    refine lv_if_ne (tgt := 22) hx hb dJ6_getChars_ba4f3_16 (by decide) (fun _ => ?_) (fun q => absurd q (by decide))
    refine t2 ls ?_
    rw [show (-(v.natAbs : Int)) = v by omega]
    exact lv_sub hl [2, 0, 1, 4] rfl
set_option maxHeartbeats 4000000 in
set_option maxRecDepth 100000 in
theorem kJ5_isLatin1 (q r n : Nat) : Cn D g x l yJ5_isLatin1_aae02 cJ5_isLatin1_aae02 1 (some .boolean) 0 0 [.ref q] [(q, .inr (8, [.ref r, .int 0, .int 0, .int (nI n)]))] [(q, .inr (8, [.ref r, .int 0, .int 0, .int (nI n)]))] (some (.int 1)) := by
  refine CnI (by decide +kernel) (Nat.le_of_ble_eq_true rfl) (fun p e s m args below meth c9 A Q ls X hD hP hS fin hl => ?_)
  obtain ⟨hx, hb, hml, -, -, hown, hts, hK, hA, hE⟩ := id X
  have hl : lv_has ls 1 [(0, .ref q)] := hl
  refine va_gets hx hb hE.2.2.2.2.1 hS hown (hts _ fs_J5_18) (fun _ h => h) dJ5_isLatin1_aae02_0 ?_
  refine lv_if_eq (tgt := 17) hx hb dJ5_isLatin1_aae02_3 (by decide) (fun h => absurd h (by decide)) (fun _ => ?_)
  refine lv_aload_n hx hb dJ5_isLatin1_aae02_6 rfl (lv_at hl 0 rfl) ?_
  refine mget X fl_J5_22 hP 0 rfl rfl dJ5_isLatin1_aae02_7 ?_
  refine lv_if_ne (tgt := 17) hx hb dJ5_isLatin1_aae02_10 (by decide) (fun h => absurd rfl h) (fun _ => ?_)
  refine lv_iconst (v := 1) hx hb dJ5_isLatin1_aae02_13 (by decide) ?_
  refine lv_goto (tgt := 18) hx hb dJ5_isLatin1_aae02_14 (by decide) ?_
  exact fin _ _ _ _ (nar_z (Or.inr rfl)) hP hS dJ5_isLatin1_aae02_18
set_option maxHeartbeats 4000000 in
set_option maxRecDepth 100000 in
theorem kJ5_appI (q r cap : Nat) (L : List Nat) (f : Nat → Int32) (hf : Tx L f) (hL : L.length ≤ cap) (hcap : cap ≤ 410) (v : Int) (h0 : -99 ≤ v) (h1 : v ≤ 99) (hk : (L ++ dcN v).length ≤ 200) : CnG D g x l yJ5_append_c97b9 cJ5_append_c97b9 4 (some (.object "java/lang/AbstractStringBuilder")) 4 220 1 1024 [.ref q, .int (z3 v)] (sbW g q r L.length cap f) (fun z w => z = some (.ref q) ∧ ∃ r1 cap1 f1, w = sbW g q r1 (L ++ dcN v).length cap1 f1 ∧ cap1 ≤ 410 ∧ (L ++ dcN v).length ≤ cap1 ∧ Tx (L ++ dcN v) f1) := by
  have hla := List.length_append (as := L) (bs := dcN v)
  refine CnG.a (Or.inl ⟨_, rfl⟩) (by decide +kernel) (Nat.le_of_ble_eq_true rfl) (fun p e s m args below meth c9 A Q ls X hnm hD hP hS fin hl => ?_)
  obtain ⟨hx, hb, hml, -, -, hown, hts, hK, hA, hE⟩ := id X
  have hl : lv_has ls 4 [(0, .ref q), (1, .int (z3 v))] := hl
  refine lv_aload_n hx hb dJ5_append_c97b9_0 rfl (lv_at hl 0 rfl) ?_
  refine mget X fl_J5_79 hP 0 rfl rfl dJ5_append_c97b9_1 ?_
  refine lv_istore_n (lv' := [(2, .int (nI L.length)), (0, .ref q), (1, .int (z3 v))]) hx hb dJ5_append_c97b9_4 rfl hl (by decide) rfl (fun ls hl => ?_)
  refine lv_iload_n hx hb dJ5_append_c97b9_5 rfl (lv_at hl 0 rfl) ?_
  refine lv_iload_n hx hb dJ5_append_c97b9_6 rfl (lv_at hl 2 rfl) ?_
  refine mcallS X (As := [.int (z3 v)]) (rest := [.int (nI L.length)]) (wc := []) (wc1 := []) (ws1 := sbW g q r L.length cap f) (st1 := [.int (nI (dcN v).length), .int (nI L.length)]) (kJ6_stringSize D g x l v h0 h1) mw_J6_stringSize_0f7a4 ml_J5_245 ⟨(Nat.le_of_ble_eq_true rfl), (Nat.le_of_ble_eq_true rfl)⟩ hP hD hS [] rfl rfl rfl rfl hl.1 rfl (Nat.le_of_ble_eq_true rfl) dJ5_append_c97b9_7 ⟨Nat.zero_le _, Nat.zero_le _⟩ rfl rfl (fun H locs hP hD hS => ?_)
  refine lv_iadd hx hb dJ5_append_c97b9_10 ?_
  rw [nI_add]
  refine lv_istore_n (lv' := [(3, .int (nI (L.length + (dcN v).length))), (2, .int (nI L.length)), (0, .ref q), (1, .int (z3 v))]) hx hb dJ5_append_c97b9_11 rfl hl (by decide) rfl (fun ls hl => ?_)
  refine lv_aload_n hx hb dJ5_append_c97b9_12 rfl (lv_at hl 2 rfl) ?_
  refine lv_iload_n hx hb dJ5_append_c97b9_13 rfl (lv_at hl 0 rfl) ?_
  refine gcallU X (C := RJ4) (As := [.int (nI (L.length + (dcN v).length))]) (rest := []) (wr := []) (kJ5_ensure D g x l q r cap L f hf hL hcap (L.length + (dcN v).length) (by omega)) mw_J5_ensureCapacityInternal_d00df ml_J5_100 ⟨(Nat.le_of_ble_eq_true rfl), (Nat.le_of_ble_eq_true rfl)⟩ [0, 1] (by decide +kernel) rfl hP hD hS 0 rfl rfl rfl hl.1 rfl (Nat.le_of_ble_eq_true rfl) dJ5_append_c97b9_14 ⟨(Nat.le_of_ble_eq_true rfl), (Nat.le_of_ble_eq_true rfl)⟩ (fun z w1 H locs hp hP hD hS => ?_)
  obtain ⟨rfl, r1, cap1, f1, rfl, g1, g2, g3, hf1⟩ := hp
  have hP : va_P D vwCl (sbW g q r1 L.length cap1 f1) H := hP
  have hD : va_D A (sbW g q r1 L.length cap1 f1) := hD
  refine lv_aload_n hx hb dJ5_append_c97b9_17 rfl (lv_at hl 2 rfl) ?_
  refine mcallU X (As := []) (rest := []) (ws1 := sbW g q r1 L.length cap1 f1) (st1 := [.int 1]) (kJ5_isLatin1 D g x l q r1 L.length) mw_J5_isLatin1_aae02 ml_J5_83 ⟨(Nat.le_of_ble_eq_true rfl), (Nat.le_of_ble_eq_true rfl)⟩ hP hD hS [0] (by decide +kernel) rfl rfl 0 rfl rfl rfl hl.1 rfl (Nat.le_of_ble_eq_true rfl) dJ5_append_c97b9_18 ⟨(Nat.le_of_ble_eq_true rfl), (Nat.le_of_ble_eq_true rfl)⟩ rfl rfl (fun H locs hP hD hS => ?_)
  refine lv_if_eq (tgt := 37) hx hb dJ5_append_c97b9_21 (by decide) (fun h => absurd h (by decide)) (fun _ => ?_)
  refine lv_iload_n hx hb dJ5_append_c97b9_24 rfl (lv_at hl 3 rfl) ?_
  refine lv_iload_n hx hb dJ5_append_c97b9_25 rfl (lv_at hl 0 rfl) ?_
  refine lv_aload_n hx hb dJ5_append_c97b9_26 rfl (lv_at hl 2 rfl) ?_
  refine mget X fl_J5_15 hP 0 rfl rfl dJ5_append_c97b9_27 ?_
  refine mcallS X (As := [.int (z3 v), .int (nI (L.length + (dcN v).length)), .ref r1]) (rest := []) (ws1 := sbW g q r1 L.length cap1 (gcF v (L.length + (dcN v).length) f1)) (st1 := [.int (nI L.length)]) (kJ6_getChars D g x l v h0 h1 r1 cap1 (L.length + (dcN v).length) L.length f1 rfl g1 (by omega)) mw_J6_getChars_ba4f3 ml_J5_248 ⟨(Nat.le_of_ble_eq_true rfl), (Nat.le_of_ble_eq_true rfl)⟩ hP hD hS [1] (by decide +kernel) rfl rfl rfl hl.1 rfl (Nat.le_of_ble_eq_true rfl) dJ5_append_c97b9_30 ⟨(Nat.le_of_ble_eq_true rfl), (Nat.le_of_ble_eq_true rfl)⟩ rfl rfl (fun H locs hP hD hS => ?_)
  refine lv_pop (va := .int (nI L.length)) hx hb dJ5_append_c97b9_33 rfl ?_
  refine lv_goto (tgt := 48) hx hb dJ5_append_c97b9_34 (by decide) ?_
  refine lv_aload_n hx hb dJ5_append_c97b9_48 rfl (lv_at hl 2 rfl) ?_
  refine lv_iload_n hx hb dJ5_append_c97b9_49 rfl (lv_at hl 0 rfl) ?_
  refine mputI X fl_J5_79 (ws1 := sbW g q r1 (L.length + (dcN v).length) cap1 (gcF v (L.length + (dcN v).length) f1)) hP hD hS 0 rfl rfl ⟨_, rfl, rfl⟩ dJ5_append_c97b9_50 rfl (fun H locs hP hD hS => ?_)
  refine lv_aload_n hx hb dJ5_append_c97b9_53 rfl (lv_at hl 2 rfl) ?_
  refine W.widen (k := 1) (n := 1024) (Nat.le_of_ble_eq_true rfl) (Nat.le_of_ble_eq_true rfl) ?_
  exact fin (some (.ref q)) _ _ _ _ _ ⟨rfl, r1, cap1, _, by rw [hla], g3, by omega, hf1.dc h0 h1 hla.symm⟩ (fun z h => by cases h; exact ⟨_, rfl⟩) (by constructor <;> (intro h; cases h)) hP hD hS dJ5_append_c97b9_54
set_option maxHeartbeats 4000000 in
set_option maxRecDepth 100000 in
theorem kJ4_appI (q r cap : Nat) (L : List Nat) (f : Nat → Int32) (hf : Tx L f) (hL : L.length ≤ cap) (hcap : cap ≤ 410) (v : Int) (h0 : -99 ≤ v) (h1 : v ≤ 99) (hk : (L ++ dcN v).length ≤ 200) : CnG D g x l yJ4_append_bf812 cJ4_append_bf812 2 (some (.object "java/lang/StringBuilder")) 5 260 1 1024 [.ref q, .int (z3 v)] (sbW g q r L.length cap f) (fun z w => z = some (.ref q) ∧ ∃ r1 cap1 f1, w = sbW g q r1 (L ++ dcN v).length cap1 f1 ∧ cap1 ≤ 410 ∧ (L ++ dcN v).length ≤ cap1 ∧ Tx (L ++ dcN v) f1) := by
  refine CnG.a (Or.inl ⟨_, rfl⟩) (by decide +kernel) (Nat.le_of_ble_eq_true rfl) (fun p e s m args below meth c9 A Q ls X hnm hD hP hS fin hl => ?_)
  obtain ⟨hx, hb, hml, -, -, hown, hts, hK, hA, hE⟩ := id X
  have hl : lv_has ls 2 [(0, .ref q), (1, .int (z3 v))] := hl
  refine lv_aload_n hx hb dJ4_append_bf812_0 rfl (lv_at hl 0 rfl) ?_
  refine lv_iload_n hx hb dJ4_append_bf812_1 rfl (lv_at hl 1 rfl) ?_
  refine gcallP X (C := RJ4) (As := [.int (z3 v)]) (rest := []) (wr := []) (kJ5_appI D g x l q r cap L f hf hL hcap v h0 h1 hk) mw_J5_append_c97b9 ml_J4_53 ⟨(Nat.le_of_ble_eq_true rfl), (Nat.le_of_ble_eq_true rfl)⟩ [0, 1] (by decide +kernel) rfl hP hD hS 0 rfl rfl rfl hl.1 rfl (Nat.le_of_ble_eq_true rfl) dJ4_append_bf812_2 ⟨(Nat.le_of_ble_eq_true rfl), (Nat.le_of_ble_eq_true rfl)⟩ (fun z w1 H locs hp hP hD hS => ?_)
  obtain ⟨rfl, hp⟩ := hp
  refine lv_pop (va := .ref q) hx hb dJ4_append_bf812_5 rfl ?_
  refine lv_aload_n hx hb dJ4_append_bf812_6 rfl (lv_at hl 0 rfl) ?_
  refine W.widen (k := 1) (n := 1024) (Nat.le_of_ble_eq_true rfl) (Nat.le_of_ble_eq_true rfl) ?_
  exact fin (some (.ref q)) w1 _ _ _ _ ⟨rfl, hp⟩ (fun z h => by cases h; exact ⟨_, rfl⟩) (by constructor <;> (intro h; cases h)) hP hD hS dJ4_append_bf812_7
end TXN
