/-! the law's cases 15 to 28 -/
section LAWK
variable {p : Program} {l : Launch} {e : Env} {s : State} {m : MethodId} {args : Array Value} {below : List Frame} {meth : Method} {c : Code} {H : Heap} {locs : List Loc} {cells slots : Nat} {Q : State → Prop}
variable {D : va_G} {g : Nat → ClassId} {x : Xd} {A : Nat → Prop} {ret0 : Option FieldType} {b L k : Nat} {xs : Nat → Int32} {α : Adr9} {z z1 : SL} {ls : Array Slot}
theorem ll_c15 (X : Cx p s m args meth c RL cL_law 9 ret0 D g x A) (hs : Scr9 b L xs s A) (hl0 : l.stackTraces = false) (hW : LLP D g α A s z H locs) (hl : lv_has ls 9 (lvB b α k)) (hk : k + 6 ≤ L) (hcs : cells + 8 ≤ 601024 ∧ slots + 48 ≤ 7293034) (hq : q_15 (fun j => xs (k + j)) z = some z1)
    (kk : ∀ (H1 : Heap) (locs1 : List Loc) (ls1 : Array Slot), LLP D g α A s z1 H1 locs1 → lv_has ls1 9 (lvB b α k) → W p l e room_1 s m args below meth c H1 locs1 (cells + 8) (slots + 48) Q (F0 m 2372 ls1 [])) : W p l e room_1 s m args below meth c H locs cells slots Q (F0 m 812 ls []) := by
  obtain ⟨hx, hb, -⟩ := id X
  obtain ⟨a, ha, hq⟩ := o_b hq
  obtain ⟨b9, hb9, hq⟩ := o_b hq
  refine lv_aload_n hx hb dL_law_812 rfl (lv_at hl 1 rfl) ?_
  refine ll_ld X hs hW.2.2 (lv_at hl 0 rfl) (lv_at hl 5 rfl) 1 (by decide) (Nat.lt_of_lt_of_le (Nat.add_lt_add_left (by decide) k) hk) dL_law_813 dL_law_814 dL_law_816 dL_law_817 dL_law_818 ?_
  refine ll_ld X hs hW.2.2 (lv_at hl 0 rfl) (lv_at hl 5 rfl) 2 (by decide) (Nat.lt_of_lt_of_le (Nat.add_lt_add_left (by decide) k) hk) dL_law_819 dL_law_820 dL_law_822 dL_law_823 dL_law_824 ?_
  refine lv_aload_n hx hb dL_law_825 rfl (lv_at hl 3 rfl) ?_
  refine ll_h X (z := z) (As := [.ref (α.1 0), .int (xs (k + 1)), .int (xs (k + 2)), .ref α.2.2.2.1]) (H_value D g x l hl0 α.1 α.2.1 α.2.2.2.1 z.1 (xs (k + 1)) (xs (k + 2)) z.2.2.1 a ha) mh_value ml_L_180 ⟨(Nat.le_of_ble_eq_true rfl), (Nat.le_of_ble_eq_true rfl)⟩ (Nat.le_of_ble_eq_true rfl) hW rfl hl.1 rfl dL_law_826 hcs (fun H locs hW => ?_)
  refine lv_istore (lv' := (6, .int a.1) :: lvB b α k) hx hb dL_law_829 hl (by decide) rfl (fun ls hl => ?_)
  refine lv_aload_n hx hb dL_law_831 rfl (lv_at hl 3 rfl) ?_
  refine ll_ld X hs hW.2.2 (lv_at hl 1 rfl) (lv_at hl 6 rfl) 1 (by decide) (Nat.lt_of_lt_of_le (Nat.add_lt_add_left (by decide) k) hk) dL_law_832 dL_law_833 dL_law_835 dL_law_836 dL_law_837 ?_
  refine ll_ld X hs hW.2.2 (lv_at hl 1 rfl) (lv_at hl 6 rfl) 2 (by decide) (Nat.lt_of_lt_of_le (Nat.add_lt_add_left (by decide) k) hk) dL_law_838 dL_law_839 dL_law_841 dL_law_842 dL_law_843 ?_
  refine ll_m X (z := (a.2.1, z.2.1, a.2.2, z.2.2.2)) (As := [.int (xs (k + 1)), .int (xs (k + 2))]) (rest := []) (st1 := [.long b9.1]) (K7_value D g x l α.2.2.1 z.2.1 (xs (k + 1)) (xs (k + 2)) b9 hb9) mw_X7_value ml_L_182 rfl ⟨(Nat.le_of_ble_eq_true rfl), (Nat.le_of_ble_eq_true rfl)⟩ hW rfl hl.1 rfl (Nat.le_of_ble_eq_true rfl) dL_law_844 hcs rfl (fun H locs hW => ?_)
  refine lv_lstore (lv' := (7, .long b9.1) :: (6, .int a.1) :: lvB b α k) hx hb dL_law_847 hl (by decide) rfl (fun ls hl => ?_)
  exact ll_tJ X (z := (a.2.1, b9.2, a.2.2, z.2.2.2)) hW hl hcs hq (by decide) dL_law_849 dL_law_850 dL_law_853 dL_law_855 dL_law_860 dL_law_862 dL_law_865 dL_law_866 dL_law_867 dL_law_868 dL_law_870 dL_law_871 dL_law_876 (fun H locs hW => kk _ _ _ hW (lv_sub hl [2, 3, 4, 5, 6, 7] rfl))
theorem ll_c16 (X : Cx p s m args meth c RL cL_law 9 ret0 D g x A) (hs : Scr9 b L xs s A) (hl0 : l.stackTraces = false) (hW : LLP D g α A s z H locs) (hl : lv_has ls 9 (lvB b α k)) (hk : k + 6 ≤ L) (hcs : cells + 8 ≤ 601024 ∧ slots + 48 ≤ 7293034) (hq : q_16 (fun j => xs (k + j)) z = some z1)
    (kk : ∀ (H1 : Heap) (locs1 : List Loc) (ls1 : Array Slot), LLP D g α A s z1 H1 locs1 → lv_has ls1 9 (lvB b α k) → W p l e room_1 s m args below meth c H1 locs1 (cells + 8) (slots + 48) Q (F0 m 2372 ls1 [])) : W p l e room_1 s m args below meth c H locs cells slots Q (F0 m 879 ls []) := by
  obtain ⟨hx, hb, -⟩ := id X
  obtain ⟨a, ha, hq⟩ := o_b hq
  obtain ⟨b9, hb9, hq⟩ := o_b hq
  refine lv_aload_n hx hb dL_law_879 rfl (lv_at hl 1 rfl) ?_
  refine ll_ld X hs hW.2.2 (lv_at hl 0 rfl) (lv_at hl 5 rfl) 1 (by decide) (Nat.lt_of_lt_of_le (Nat.add_lt_add_left (by decide) k) hk) dL_law_880 dL_law_881 dL_law_883 dL_law_884 dL_law_885 ?_
  refine lv_aload hx hb dL_law_886 (lv_at hl 4 rfl) ?_
  refine ll_hd X (z := z) (As := [.ref (α.1 0), .int (xs (k + 1)), .ref α.2.2.2.2]) (H_about D g x l hl0 α.1 α.2.1 α.2.2.2.2 z.1 (xs (k + 1)) z.2.2.2 a ha) mh_about ml_L_183 ⟨(Nat.le_of_ble_eq_true rfl), (Nat.le_of_ble_eq_true rfl)⟩ (Nat.le_of_ble_eq_true rfl) hW rfl hl.1 rfl dL_law_888 hcs (fun H locs hW => ?_)
  refine lv_istore (lv' := (6, .int a.1) :: lvB b α k) hx hb dL_law_891 hl (by decide) rfl (fun ls hl => ?_)
  refine lv_aload_n hx hb dL_law_893 rfl (lv_at hl 3 rfl) ?_
  refine ll_ld X hs hW.2.2 (lv_at hl 1 rfl) (lv_at hl 6 rfl) 1 (by decide) (Nat.lt_of_lt_of_le (Nat.add_lt_add_left (by decide) k) hk) dL_law_894 dL_law_895 dL_law_897 dL_law_898 dL_law_899 ?_
  refine ll_m X (z := (a.2.1, z.2.1, z.2.2.1, a.2.2)) (As := [.int (xs (k + 1))]) (rest := []) (st1 := [.double b9.1]) (K7_about D g x l α.2.2.1 z.2.1 (xs (k + 1)) b9 hb9) mw_X7_about ml_L_186 rfl ⟨(Nat.le_of_ble_eq_true rfl), (Nat.le_of_ble_eq_true rfl)⟩ hW rfl hl.1 rfl (Nat.le_of_ble_eq_true rfl) dL_law_900 hcs rfl (fun H locs hW => ?_)
  refine lv_dstore (lv' := (7, .double b9.1) :: (6, .int a.1) :: lvB b α k) hx hb dL_law_903 hl (by decide) rfl (fun ls hl => ?_)
  refine ll_t0 X (z := (a.2.1, b9.2, z.2.2.1, a.2.2)) hW hl.1 (lv_at hl 4 rfl) (lv_at hl 1 rfl) hcs hq (t1 := 953) (by decide) (by decide) dL_law_905 dL_law_906 dL_law_909 dL_law_911 dL_law_916 dL_law_918 dL_law_953 (fun H locs hW => kk _ _ _ hW (lv_sub hl [2, 3, 4, 5, 6, 7] rfl)) (fun hG hz H locs hW => ?_)
  have h4 := lv_at hl 6 rfl
  have h7 := lv_at hl 0 rfl
  have hk9 := kk _ _ _ hW (lv_sub hl [2, 3, 4, 5, 6, 7] rfl)
  refine ll_outD X hW h4 dL_law_921 dL_law_923 dL_law_924 ?_
  rw [hz]
  refine lv_dload hx hb dL_law_925 h7 ?_
  refine lv_dcmp hx hb dL_law_927 ?_
  refine lv_if_eq (tgt := 953) hx hb dL_law_928 (by decide) (fun _ => ?_) (fun w => ?_)
  · refine lv_goto (tgt := 2372) hx hb dL_law_953 (by decide) ?_
    exact hk9
  · have hN := hG.resolve_left w
    refine ll_outD X hW h4 dL_law_931 dL_law_933 dL_law_934 ?_
    refine ll_outD X hW h4 dL_law_935 dL_law_937 dL_law_938 ?_
    rw [hz]
    refine lv_dcmp hx hb dL_law_939 ?_
    refine lv_if_eq (tgt := 951) hx hb dL_law_940 (by decide) (fun w => absurd w hN.1) (fun _ => ?_)
    refine lv_dload hx hb dL_law_943 h7 ?_
    refine lv_dload hx hb dL_law_945 h7 ?_
    refine lv_dcmp hx hb dL_law_947 ?_
    refine lv_if_ne (tgt := 953) hx hb dL_law_948 (by decide) (fun _ => ?_) (fun w => absurd w hN.2)
    refine lv_goto (tgt := 2372) hx hb dL_law_953 (by decide) ?_
    exact hk9
theorem ll_c17 (X : Cx p s m args meth c RL cL_law 9 ret0 D g x A) (hs : Scr9 b L xs s A) (hl0 : l.stackTraces = false) (hW : LLP D g α A s z H locs) (hl : lv_has ls 9 (lvB b α k)) (hk : k + 6 ≤ L) (hcs : cells + 8 ≤ 601024 ∧ slots + 48 ≤ 7293034) (hq : q_17 (fun j => xs (k + j)) z = some z1)
    (kk : ∀ (H1 : Heap) (locs1 : List Loc) (ls1 : Array Slot), LLP D g α A s z1 H1 locs1 → lv_has ls1 9 (lvB b α k) → W p l e room_1 s m args below meth c H1 locs1 (cells + 8) (slots + 48) Q (F0 m 2372 ls1 [])) : W p l e room_1 s m args below meth c H locs cells slots Q (F0 m 956 ls []) := by
  obtain ⟨hx, hb, -⟩ := id X
  obtain ⟨a, ha, hq⟩ := o_b hq
  obtain ⟨b9, hb9, hq⟩ := o_b hq
  refine lv_aload_n hx hb dL_law_956 rfl (lv_at hl 1 rfl) ?_
  refine ll_ld X hs hW.2.2 (lv_at hl 0 rfl) (lv_at hl 5 rfl) 1 (by decide) (Nat.lt_of_lt_of_le (Nat.add_lt_add_left (by decide) k) hk) dL_law_957 dL_law_958 dL_law_960 dL_law_961 dL_law_962 ?_
  refine lv_aload_n hx hb dL_law_963 rfl (lv_at hl 3 rfl) ?_
  refine ll_h X (z := z) (As := [.ref (α.1 0), .int (xs (k + 1)), .ref α.2.2.2.1]) (H_isMet D g x l hl0 α.1 α.2.1 α.2.2.2.1 z.1 (xs (k + 1)) z.2.2.1 a ha) mh_isMet ml_L_187 ⟨(Nat.le_of_ble_eq_true rfl), (Nat.le_of_ble_eq_true rfl)⟩ (Nat.le_of_ble_eq_true rfl) hW rfl hl.1 rfl dL_law_964 hcs (fun H locs hW => ?_)
  refine lv_istore (lv' := (6, .int a.1) :: lvB b α k) hx hb dL_law_967 hl (by decide) rfl (fun ls hl => ?_)
  refine lv_aload_n hx hb dL_law_969 rfl (lv_at hl 3 rfl) ?_
  refine ll_ld X hs hW.2.2 (lv_at hl 1 rfl) (lv_at hl 6 rfl) 1 (by decide) (Nat.lt_of_lt_of_le (Nat.add_lt_add_left (by decide) k) hk) dL_law_970 dL_law_971 dL_law_973 dL_law_974 dL_law_975 ?_
  refine ll_m X (z := (a.2.1, z.2.1, a.2.2, z.2.2.2)) (As := [.int (xs (k + 1))]) (rest := []) (st1 := [.int b9.1]) (K7_isMet D g x l α.2.2.1 z.2.1 (xs (k + 1)) b9 hb9) mw_X7_isMet ml_L_189 rfl ⟨(Nat.le_of_ble_eq_true rfl), (Nat.le_of_ble_eq_true rfl)⟩ hW rfl hl.1 rfl (Nat.le_of_ble_eq_true rfl) dL_law_976 hcs rfl (fun H locs hW => ?_)
  refine lv_istore (lv' := (7, .int b9.1) :: (6, .int a.1) :: lvB b α k) hx hb dL_law_979 hl (by decide) rfl (fun ls hl => ?_)
  refine ll_t0 X (z := (a.2.1, b9.2, a.2.2, z.2.2.2)) hW hl.1 (lv_at hl 4 rfl) (lv_at hl 1 rfl) hcs hq (t1 := 1016) (by decide) (by decide) dL_law_981 dL_law_982 dL_law_985 dL_law_987 dL_law_992 dL_law_994 dL_law_1016 (fun H locs hW => kk _ _ _ hW (lv_sub hl [2, 3, 4, 5, 6, 7] rfl)) (fun hG hz H locs hW => ?_)
  refine ll_out X hW (lv_at hl 5 rfl) dL_law_997 dL_law_998 dL_law_999 ?_
  rw [hz]
  refine lv_iload hx hb dL_law_1000 (lv_at hl 0 rfl) ?_
  refine lv_if_eq (tgt := 1009) hx hb dL_law_1002 (by decide) (fun w => ?_) (fun w => ?_)
  · rw [if_pos w] at hG
    refine lv_lconst (v := 0) hx hb dL_law_1009 (by decide) ?_
    refine W.lcmp hx hb dL_law_1010 ?_
    refine lv_if_eq (tgt := 1016) hx hb dL_law_1011 (by decide) (fun _ => ?_) (fun w => absurd (lg_cmp_self hG) w)
    refine lv_goto (tgt := 2372) hx hb dL_law_1016 (by decide) ?_
    exact kk _ _ _ hW (lv_sub hl [2, 3, 4, 5, 6, 7] rfl)
  · rw [if_neg w] at hG
    refine lv_lconst (v := 1) hx hb dL_law_1005 (by decide) ?_
    refine lv_goto (tgt := 1010) hx hb dL_law_1006 (by decide) ?_
    refine W.lcmp hx hb dL_law_1010 ?_
    refine lv_if_eq (tgt := 1016) hx hb dL_law_1011 (by decide) (fun _ => ?_) (fun w => absurd (lg_cmp_self hG) w)
    refine lv_goto (tgt := 2372) hx hb dL_law_1016 (by decide) ?_
    exact kk _ _ _ hW (lv_sub hl [2, 3, 4, 5, 6, 7] rfl)
theorem ll_c18 (X : Cx p s m args meth c RL cL_law 9 ret0 D g x A) (hs : Scr9 b L xs s A) (hW : LLP D g α A s z H locs) (hl : lv_has ls 9 (lvB b α k)) (hk : k + 6 ≤ L) (hcs : cells + 8 ≤ 601024 ∧ slots + 48 ≤ 7293034) (hq : q_18 (fun j => xs (k + j)) z = some z1)
    (kk : ∀ (H1 : Heap) (locs1 : List Loc) (ls1 : Array Slot), LLP D g α A s z1 H1 locs1 → lv_has ls1 9 (lvB b α k) → W p l e room_1 s m args below meth c H1 locs1 (cells + 8) (slots + 48) Q (F0 m 2372 ls1 [])) : W p l e room_1 s m args below meth c H locs cells slots Q (F0 m 1019 ls []) := by
  obtain ⟨hx, hb, -⟩ := id X
  obtain ⟨a, ha, hq⟩ := o_b hq
  obtain ⟨b9, hb9, hq⟩ := o_b hq
  refine lv_aload_n hx hb dL_law_1019 rfl (lv_at hl 1 rfl) ?_
  refine ll_x X (z := z) (As := []) (rest := []) (st1 := [.int a.1]) (K6_missed D g x l α.1 α.2.1 z.1  a ha) mw_X6_missed ml_L_190 rfl ⟨(Nat.le_of_ble_eq_true rfl), (Nat.le_of_ble_eq_true rfl)⟩ hW rfl hl.1 rfl (Nat.le_of_ble_eq_true rfl) dL_law_1020 hcs rfl (fun H locs hW => ?_)
  refine lv_aload_n hx hb dL_law_1023 rfl (lv_at hl 2 rfl) ?_
  refine ll_m X (z := (a.2, z.2)) (As := []) (rest := [.int a.1]) (st1 := [.int b9.1, .int a.1]) (K7_missed D g x l α.2.2.1 z.2.1  b9 hb9) mw_X7_missed ml_L_193 rfl ⟨(Nat.le_of_ble_eq_true rfl), (Nat.le_of_ble_eq_true rfl)⟩ hW rfl hl.1 rfl (Nat.le_of_ble_eq_true rfl) dL_law_1024 ⟨Nat.le_trans (Nat.le_add_right cells 8) hcs.1, Nat.le_trans (Nat.le_add_right slots 48) hcs.2⟩ rfl (fun H locs hW => ?_)
  obtain ⟨hv, hq⟩ := o_y hq
  refine lv_icmp_eq (tgt := 2372) hx hb dL_law_1027 (by decide) (fun _ => ?_) (fun w => absurd hv w)
  cases hq
  exact W.widen (Nat.le_add_right cells 8) (Nat.le_add_right slots 48) (kk _ _ _ hW hl)
theorem ll_c19 (X : Cx p s m args meth c RL cL_law 9 ret0 D g x A) (hs : Scr9 b L xs s A) (hW : LLP D g α A s z H locs) (hl : lv_has ls 9 (lvB b α k)) (hk : k + 6 ≤ L) (hcs : cells + 8 ≤ 601024 ∧ slots + 48 ≤ 7293034) (hq : q_19 (fun j => xs (k + j)) z = some z1)
    (kk : ∀ (H1 : Heap) (locs1 : List Loc) (ls1 : Array Slot), LLP D g α A s z1 H1 locs1 → lv_has ls1 9 (lvB b α k) → W p l e room_1 s m args below meth c H1 locs1 (cells + 8) (slots + 48) Q (F0 m 2372 ls1 [])) : W p l e room_1 s m args below meth c H locs cells slots Q (F0 m 1032 ls []) := by
  obtain ⟨hx, hb, -⟩ := id X
  obtain ⟨a, ha, hq⟩ := o_b hq
  obtain ⟨b9, hb9, hq⟩ := o_b hq
  refine lv_aload_n hx hb dL_law_1032 rfl (lv_at hl 1 rfl) ?_
  refine ll_ld X hs hW.2.2 (lv_at hl 0 rfl) (lv_at hl 5 rfl) 1 (by decide) (Nat.lt_of_lt_of_le (Nat.add_lt_add_left (by decide) k) hk) dL_law_1033 dL_law_1034 dL_law_1036 dL_law_1037 dL_law_1038 ?_
  refine ll_x X (z := z) (As := [.int (xs (k + 1))]) (rest := []) (st1 := [.int a.1]) (K6_many D g x l α.1 α.2.1 z.1 (xs (k + 1)) a ha) mw_X6_many ml_L_194 rfl ⟨(Nat.le_of_ble_eq_true rfl), (Nat.le_of_ble_eq_true rfl)⟩ hW rfl hl.1 rfl (Nat.le_of_ble_eq_true rfl) dL_law_1039 hcs rfl (fun H locs hW => ?_)
  refine lv_aload_n hx hb dL_law_1042 rfl (lv_at hl 2 rfl) ?_
  refine ll_ld X hs hW.2.2 (lv_at hl 0 rfl) (lv_at hl 5 rfl) 1 (by decide) (Nat.lt_of_lt_of_le (Nat.add_lt_add_left (by decide) k) hk) dL_law_1043 dL_law_1044 dL_law_1046 dL_law_1047 dL_law_1048 ?_
  refine ll_m X (z := (a.2, z.2)) (As := [.int (xs (k + 1))]) (rest := [.int a.1]) (st1 := [.int b9.1, .int a.1]) (K7_many D g x l α.2.2.1 z.2.1 (xs (k + 1)) b9 hb9) mw_X7_many ml_L_197 rfl ⟨(Nat.le_of_ble_eq_true rfl), (Nat.le_of_ble_eq_true rfl)⟩ hW rfl hl.1 rfl (Nat.le_of_ble_eq_true rfl) dL_law_1049 ⟨Nat.le_trans (Nat.le_add_right cells 8) hcs.1, Nat.le_trans (Nat.le_add_right slots 48) hcs.2⟩ rfl (fun H locs hW => ?_)
  obtain ⟨hv, hq⟩ := o_y hq
  refine lv_icmp_eq (tgt := 2372) hx hb dL_law_1052 (by decide) (fun _ => ?_) (fun w => absurd hv w)
  cases hq
  exact W.widen (Nat.le_add_right cells 8) (Nat.le_add_right slots 48) (kk _ _ _ hW hl)
theorem ll_c20 (X : Cx p s m args meth c RL cL_law 9 ret0 D g x A) (hs : Scr9 b L xs s A) (hW : LLP D g α A s z H locs) (hl : lv_has ls 9 (lvB b α k)) (hk : k + 6 ≤ L) (hcs : cells + 8 ≤ 601024 ∧ slots + 48 ≤ 7293034) (hq : q_20 (fun j => xs (k + j)) z = some z1)
    (kk : ∀ (H1 : Heap) (locs1 : List Loc) (ls1 : Array Slot), LLP D g α A s z1 H1 locs1 → lv_has ls1 9 (lvB b α k) → W p l e room_1 s m args below meth c H1 locs1 (cells + 8) (slots + 48) Q (F0 m 2372 ls1 [])) : W p l e room_1 s m args below meth c H locs cells slots Q (F0 m 1057 ls []) := by
  obtain ⟨hx, hb, -⟩ := id X
  obtain ⟨a, ha, hq⟩ := o_b hq
  obtain ⟨b9, hb9, hq⟩ := o_b hq
  refine lv_aload_n hx hb dL_law_1057 rfl (lv_at hl 1 rfl) ?_
  refine ll_x X (z := z) (As := []) (rest := []) (st1 := [.int a.1]) (K6_hiddenPoles D g x l α.1 α.2.1 z.1  a ha) mw_X6_hiddenPoles ml_L_198 rfl ⟨(Nat.le_of_ble_eq_true rfl), (Nat.le_of_ble_eq_true rfl)⟩ hW rfl hl.1 rfl (Nat.le_of_ble_eq_true rfl) dL_law_1058 hcs rfl (fun H locs hW => ?_)
  refine lv_aload_n hx hb dL_law_1061 rfl (lv_at hl 2 rfl) ?_
  refine ll_m X (z := (a.2, z.2)) (As := []) (rest := [.int a.1]) (st1 := [.int b9.1, .int a.1]) (K7_hiddenPoles D g x l α.2.2.1 z.2.1  b9 hb9) mw_X7_hiddenPoles ml_L_201 rfl ⟨(Nat.le_of_ble_eq_true rfl), (Nat.le_of_ble_eq_true rfl)⟩ hW rfl hl.1 rfl (Nat.le_of_ble_eq_true rfl) dL_law_1062 ⟨Nat.le_trans (Nat.le_add_right cells 8) hcs.1, Nat.le_trans (Nat.le_add_right slots 48) hcs.2⟩ rfl (fun H locs hW => ?_)
  obtain ⟨hv, hq⟩ := o_y hq
  refine lv_icmp_eq (tgt := 2372) hx hb dL_law_1065 (by decide) (fun _ => ?_) (fun w => absurd hv w)
  cases hq
  exact W.widen (Nat.le_add_right cells 8) (Nat.le_add_right slots 48) (kk _ _ _ hW hl)
theorem ll_c21 (X : Cx p s m args meth c RL cL_law 9 ret0 D g x A) (hs : Scr9 b L xs s A) (hl0 : l.stackTraces = false) (hW : LLP D g α A s z H locs) (hl : lv_has ls 9 (lvB b α k)) (hk : k + 6 ≤ L) (hcs : cells + 8 ≤ 601024 ∧ slots + 48 ≤ 7293034) (hq : q_21 (fun j => xs (k + j)) z = some z1)
    (kk : ∀ (H1 : Heap) (locs1 : List Loc) (ls1 : Array Slot), LLP D g α A s z1 H1 locs1 → lv_has ls1 9 (lvB b α k) → W p l e room_1 s m args below meth c H1 locs1 (cells + 8) (slots + 48) Q (F0 m 2372 ls1 [])) : W p l e room_1 s m args below meth c H locs cells slots Q (F0 m 1070 ls []) := by
  obtain ⟨hx, hb, -⟩ := id X
  obtain ⟨a, ha, hq⟩ := o_b hq
  obtain ⟨b9, hb9, hq⟩ := o_b hq
  refine lv_aload_n hx hb dL_law_1070 rfl (lv_at hl 1 rfl) ?_
  refine ll_ld X hs hW.2.2 (lv_at hl 0 rfl) (lv_at hl 5 rfl) 1 (by decide) (Nat.lt_of_lt_of_le (Nat.add_lt_add_left (by decide) k) hk) dL_law_1071 dL_law_1072 dL_law_1074 dL_law_1075 dL_law_1076 ?_
  refine lv_aload_n hx hb dL_law_1077 rfl (lv_at hl 3 rfl) ?_
  refine ll_h X (z := z) (As := [.ref (α.1 0), .int (xs (k + 1)), .ref α.2.2.2.1]) (H_nextPole D g x l hl0 α.1 α.2.1 α.2.2.2.1 z.1 (xs (k + 1)) z.2.2.1 a ha) mh_nextPole ml_L_202 ⟨(Nat.le_of_ble_eq_true rfl), (Nat.le_of_ble_eq_true rfl)⟩ (Nat.le_of_ble_eq_true rfl) hW rfl hl.1 rfl dL_law_1078 hcs (fun H locs hW => ?_)
  refine lv_istore (lv' := (6, .int a.1) :: lvB b α k) hx hb dL_law_1081 hl (by decide) rfl (fun ls hl => ?_)
  refine lv_aload_n hx hb dL_law_1083 rfl (lv_at hl 3 rfl) ?_
  refine ll_ld X hs hW.2.2 (lv_at hl 1 rfl) (lv_at hl 6 rfl) 1 (by decide) (Nat.lt_of_lt_of_le (Nat.add_lt_add_left (by decide) k) hk) dL_law_1084 dL_law_1085 dL_law_1087 dL_law_1088 dL_law_1089 ?_
  refine ll_m X (z := (a.2.1, z.2.1, a.2.2, z.2.2.2)) (As := [.int (xs (k + 1))]) (rest := []) (st1 := [.int b9.1]) (K7_nextPole D g x l α.2.2.1 z.2.1 (xs (k + 1)) b9 hb9) mw_X7_nextPole ml_L_204 rfl ⟨(Nat.le_of_ble_eq_true rfl), (Nat.le_of_ble_eq_true rfl)⟩ hW rfl hl.1 rfl (Nat.le_of_ble_eq_true rfl) dL_law_1090 hcs rfl (fun H locs hW => ?_)
  refine lv_istore (lv' := (7, .int b9.1) :: (6, .int a.1) :: lvB b α k) hx hb dL_law_1093 hl (by decide) rfl (fun ls hl => ?_)
  exact ll_tI X (z := (a.2.1, b9.2, a.2.2, z.2.2.2)) hW hl hcs hq (by decide) dL_law_1095 dL_law_1096 dL_law_1099 dL_law_1101 dL_law_1106 dL_law_1108 dL_law_1111 dL_law_1112 dL_law_1113 dL_law_1114 dL_law_1116 dL_law_1117 dL_law_1118 dL_law_1123 (fun H locs hW => kk _ _ _ hW (lv_sub hl [2, 3, 4, 5, 6, 7] rfl))
theorem ll_c22 (X : Cx p s m args meth c RL cL_law 9 ret0 D g x A) (hs : Scr9 b L xs s A) (hl0 : l.stackTraces = false) (hW : LLP D g α A s z H locs) (hl : lv_has ls 9 (lvB b α k)) (hk : k + 6 ≤ L) (hcs : cells + 8 ≤ 601024 ∧ slots + 48 ≤ 7293034) (hq : q_22 (fun j => xs (k + j)) z = some z1)
    (kk : ∀ (H1 : Heap) (locs1 : List Loc) (ls1 : Array Slot), LLP D g α A s z1 H1 locs1 → lv_has ls1 9 (lvB b α k) → W p l e room_1 s m args below meth c H1 locs1 (cells + 8) (slots + 48) Q (F0 m 2372 ls1 [])) : W p l e room_1 s m args below meth c H locs cells slots Q (F0 m 1126 ls []) := by
  obtain ⟨hx, hb, -⟩ := id X
  obtain ⟨a, ha, hq⟩ := o_b hq
  obtain ⟨b9, hb9, hq⟩ := o_b hq
  refine lv_aload_n hx hb dL_law_1126 rfl (lv_at hl 1 rfl) ?_
  refine ll_lb X hs hW.2.2 (lv_at hl 0 rfl) (lv_at hl 5 rfl) 1 (by decide) (Nat.lt_of_lt_of_le (Nat.add_lt_add_left (by decide) k) hk) dL_law_1127 dL_law_1128 dL_law_1130 dL_law_1131 dL_law_1132 dL_law_1133 dL_law_1136 dL_law_1137 dL_law_1140 ?_
  refine lv_aload_n hx hb dL_law_1141 rfl (lv_at hl 3 rfl) ?_
  refine ll_h X (z := z) (As := [.ref (α.1 0), .int (qB (xs (k + 1))), .ref α.2.2.2.1]) (H_extreme D g x l hl0 α.1 α.2.1 α.2.2.2.1 z.1 (qB (xs (k + 1))) z.2.2.1 a ha) mh_extreme ml_L_205 ⟨(Nat.le_of_ble_eq_true rfl), (Nat.le_of_ble_eq_true rfl)⟩ (Nat.le_of_ble_eq_true rfl) hW rfl hl.1 rfl dL_law_1142 hcs (fun H locs hW => ?_)
  refine lv_istore (lv' := (6, .int a.1) :: lvB b α k) hx hb dL_law_1145 hl (by decide) rfl (fun ls hl => ?_)
  refine lv_aload_n hx hb dL_law_1147 rfl (lv_at hl 3 rfl) ?_
  refine ll_lb X hs hW.2.2 (lv_at hl 1 rfl) (lv_at hl 6 rfl) 1 (by decide) (Nat.lt_of_lt_of_le (Nat.add_lt_add_left (by decide) k) hk) dL_law_1148 dL_law_1149 dL_law_1151 dL_law_1152 dL_law_1153 dL_law_1154 dL_law_1157 dL_law_1158 dL_law_1161 ?_
  refine ll_m X (z := (a.2.1, z.2.1, a.2.2, z.2.2.2)) (As := [.int (qB (xs (k + 1)))]) (rest := []) (st1 := [.int b9.1]) (K7_extreme D g x l α.2.2.1 z.2.1 (qB (xs (k + 1))) b9 hb9) mw_X7_extreme ml_L_208 rfl ⟨(Nat.le_of_ble_eq_true rfl), (Nat.le_of_ble_eq_true rfl)⟩ hW rfl hl.1 rfl (Nat.le_of_ble_eq_true rfl) dL_law_1162 hcs rfl (fun H locs hW => ?_)
  refine lv_istore (lv' := (7, .int b9.1) :: (6, .int a.1) :: lvB b α k) hx hb dL_law_1165 hl (by decide) rfl (fun ls hl => ?_)
  exact ll_tI X (z := (a.2.1, b9.2, a.2.2, z.2.2.2)) hW hl hcs hq (by decide) dL_law_1167 dL_law_1168 dL_law_1171 dL_law_1173 dL_law_1178 dL_law_1180 dL_law_1183 dL_law_1184 dL_law_1185 dL_law_1186 dL_law_1188 dL_law_1189 dL_law_1190 dL_law_1195 (fun H locs hW => kk _ _ _ hW (lv_sub hl [2, 3, 4, 5, 6, 7] rfl))
theorem ll_c23 (X : Cx p s m args meth c RL cL_law 9 ret0 D g x A) (hs : Scr9 b L xs s A) (hl0 : l.stackTraces = false) (hW : LLP D g α A s z H locs) (hl : lv_has ls 9 (lvB b α k)) (hk : k + 6 ≤ L) (hcs : cells + 8 ≤ 601024 ∧ slots + 48 ≤ 7293034) (hq : q_23 (fun j => xs (k + j)) z = some z1)
    (kk : ∀ (H1 : Heap) (locs1 : List Loc) (ls1 : Array Slot), LLP D g α A s z1 H1 locs1 → lv_has ls1 9 (lvB b α k) → W p l e room_1 s m args below meth c H1 locs1 (cells + 8) (slots + 48) Q (F0 m 2372 ls1 [])) : W p l e room_1 s m args below meth c H locs cells slots Q (F0 m 1198 ls []) := by
  obtain ⟨hx, hb, -⟩ := id X
  obtain ⟨a, ha, hq⟩ := o_b hq
  obtain ⟨b9, hb9, hq⟩ := o_b hq
  refine lv_aload_n hx hb dL_law_1198 rfl (lv_at hl 1 rfl) ?_
  refine ll_ld X hs hW.2.2 (lv_at hl 0 rfl) (lv_at hl 5 rfl) 1 (by decide) (Nat.lt_of_lt_of_le (Nat.add_lt_add_left (by decide) k) hk) dL_law_1199 dL_law_1200 dL_law_1202 dL_law_1203 dL_law_1204 ?_
  refine ll_ld X hs hW.2.2 (lv_at hl 0 rfl) (lv_at hl 5 rfl) 2 (by decide) (Nat.lt_of_lt_of_le (Nat.add_lt_add_left (by decide) k) hk) dL_law_1205 dL_law_1206 dL_law_1208 dL_law_1209 dL_law_1210 ?_
  refine ll_ld X hs hW.2.2 (lv_at hl 0 rfl) (lv_at hl 5 rfl) 3 (by decide) (Nat.lt_of_lt_of_le (Nat.add_lt_add_left (by decide) k) hk) dL_law_1211 dL_law_1212 dL_law_1214 dL_law_1215 dL_law_1216 ?_
  refine lv_aload_n hx hb dL_law_1217 rfl (lv_at hl 3 rfl) ?_
  refine ll_h X (z := z) (As := [.ref (α.1 0), .int (xs (k + 1)), .int (xs (k + 2)), .int (xs (k + 3)), .ref α.2.2.2.1]) (H_row D g x l hl0 α.1 α.2.1 α.2.2.2.1 z.1 (xs (k + 1)) (xs (k + 2)) (xs (k + 3)) z.2.2.1 a ha) mh_row ml_L_209 ⟨(Nat.le_of_ble_eq_true rfl), (Nat.le_of_ble_eq_true rfl)⟩ (Nat.le_of_ble_eq_true rfl) hW rfl hl.1 rfl dL_law_1218 hcs (fun H locs hW => ?_)
  refine lv_istore (lv' := (6, .int a.1) :: lvB b α k) hx hb dL_law_1221 hl (by decide) rfl (fun ls hl => ?_)
  refine lv_aload_n hx hb dL_law_1223 rfl (lv_at hl 3 rfl) ?_
  refine ll_ld X hs hW.2.2 (lv_at hl 1 rfl) (lv_at hl 6 rfl) 1 (by decide) (Nat.lt_of_lt_of_le (Nat.add_lt_add_left (by decide) k) hk) dL_law_1224 dL_law_1225 dL_law_1227 dL_law_1228 dL_law_1229 ?_
  refine ll_ld X hs hW.2.2 (lv_at hl 1 rfl) (lv_at hl 6 rfl) 2 (by decide) (Nat.lt_of_lt_of_le (Nat.add_lt_add_left (by decide) k) hk) dL_law_1230 dL_law_1231 dL_law_1233 dL_law_1234 dL_law_1235 ?_
  refine ll_ld X hs hW.2.2 (lv_at hl 1 rfl) (lv_at hl 6 rfl) 3 (by decide) (Nat.lt_of_lt_of_le (Nat.add_lt_add_left (by decide) k) hk) dL_law_1236 dL_law_1237 dL_law_1239 dL_law_1240 dL_law_1241 ?_
  refine ll_m X (z := (a.2.1, z.2.1, a.2.2, z.2.2.2)) (As := [.int (xs (k + 1)), .int (xs (k + 2)), .int (xs (k + 3))]) (rest := []) (st1 := [.long b9.1]) (K7_row D g x l α.2.2.1 z.2.1 (xs (k + 1)) (xs (k + 2)) (xs (k + 3)) b9 hb9) mw_X7_row ml_L_212 rfl ⟨(Nat.le_of_ble_eq_true rfl), (Nat.le_of_ble_eq_true rfl)⟩ hW rfl hl.1 rfl (Nat.le_of_ble_eq_true rfl) dL_law_1242 hcs rfl (fun H locs hW => ?_)
  refine lv_lstore (lv' := (7, .long b9.1) :: (6, .int a.1) :: lvB b α k) hx hb dL_law_1245 hl (by decide) rfl (fun ls hl => ?_)
  exact ll_tJ X (z := (a.2.1, b9.2, a.2.2, z.2.2.2)) hW hl hcs hq (by decide) dL_law_1247 dL_law_1248 dL_law_1251 dL_law_1253 dL_law_1258 dL_law_1260 dL_law_1263 dL_law_1264 dL_law_1265 dL_law_1266 dL_law_1268 dL_law_1269 dL_law_1274 (fun H locs hW => kk _ _ _ hW (lv_sub hl [2, 3, 4, 5, 6, 7] rfl))
theorem ll_c24 (X : Cx p s m args meth c RL cL_law 9 ret0 D g x A) (hs : Scr9 b L xs s A) (hl0 : l.stackTraces = false) (hW : LLP D g α A s z H locs) (hl : lv_has ls 9 (lvB b α k)) (hk : k + 6 ≤ L) (hcs : cells + 8 ≤ 601024 ∧ slots + 48 ≤ 7293034) (hq : q_24 (fun j => xs (k + j)) z = some z1)
    (kk : ∀ (H1 : Heap) (locs1 : List Loc) (ls1 : Array Slot), LLP D g α A s z1 H1 locs1 → lv_has ls1 9 (lvB b α k) → W p l e room_1 s m args below meth c H1 locs1 (cells + 8) (slots + 48) Q (F0 m 2372 ls1 [])) : W p l e room_1 s m args below meth c H locs cells slots Q (F0 m 1277 ls []) := by
  obtain ⟨hx, hb, -⟩ := id X
  obtain ⟨a, ha, hq⟩ := o_b hq
  obtain ⟨b9, hb9, hq⟩ := o_b hq
  refine lv_aload_n hx hb dL_law_1277 rfl (lv_at hl 1 rfl) ?_
  refine ll_ld X hs hW.2.2 (lv_at hl 0 rfl) (lv_at hl 5 rfl) 1 (by decide) (Nat.lt_of_lt_of_le (Nat.add_lt_add_left (by decide) k) hk) dL_law_1278 dL_law_1279 dL_law_1281 dL_law_1282 dL_law_1283 ?_
  refine ll_ld X hs hW.2.2 (lv_at hl 0 rfl) (lv_at hl 5 rfl) 2 (by decide) (Nat.lt_of_lt_of_le (Nat.add_lt_add_left (by decide) k) hk) dL_law_1284 dL_law_1285 dL_law_1287 dL_law_1288 dL_law_1289 ?_
  refine lv_aload_n hx hb dL_law_1290 rfl (lv_at hl 3 rfl) ?_
  refine ll_h X (z := z) (As := [.ref (α.1 0), .int (xs (k + 1)), .int (xs (k + 2)), .ref α.2.2.2.1]) (H_slope D g x l hl0 α.1 α.2.1 α.2.2.2.1 z.1 (xs (k + 1)) (xs (k + 2)) z.2.2.1 a ha) mh_slope ml_L_213 ⟨(Nat.le_of_ble_eq_true rfl), (Nat.le_of_ble_eq_true rfl)⟩ (Nat.le_of_ble_eq_true rfl) hW rfl hl.1 rfl dL_law_1291 hcs (fun H locs hW => ?_)
  refine lv_istore (lv' := (6, .int a.1) :: lvB b α k) hx hb dL_law_1294 hl (by decide) rfl (fun ls hl => ?_)
  refine lv_aload_n hx hb dL_law_1296 rfl (lv_at hl 3 rfl) ?_
  refine ll_ld X hs hW.2.2 (lv_at hl 1 rfl) (lv_at hl 6 rfl) 1 (by decide) (Nat.lt_of_lt_of_le (Nat.add_lt_add_left (by decide) k) hk) dL_law_1297 dL_law_1298 dL_law_1300 dL_law_1301 dL_law_1302 ?_
  refine ll_ld X hs hW.2.2 (lv_at hl 1 rfl) (lv_at hl 6 rfl) 2 (by decide) (Nat.lt_of_lt_of_le (Nat.add_lt_add_left (by decide) k) hk) dL_law_1303 dL_law_1304 dL_law_1306 dL_law_1307 dL_law_1308 ?_
  refine ll_m X (z := (a.2.1, z.2.1, a.2.2, z.2.2.2)) (As := [.int (xs (k + 1)), .int (xs (k + 2))]) (rest := []) (st1 := [.long b9.1]) (K7_slope D g x l α.2.2.1 z.2.1 (xs (k + 1)) (xs (k + 2)) b9 hb9) mw_X7_slope ml_L_215 rfl ⟨(Nat.le_of_ble_eq_true rfl), (Nat.le_of_ble_eq_true rfl)⟩ hW rfl hl.1 rfl (Nat.le_of_ble_eq_true rfl) dL_law_1309 hcs rfl (fun H locs hW => ?_)
  refine lv_lstore (lv' := (7, .long b9.1) :: (6, .int a.1) :: lvB b α k) hx hb dL_law_1312 hl (by decide) rfl (fun ls hl => ?_)
  exact ll_tJ X (z := (a.2.1, b9.2, a.2.2, z.2.2.2)) hW hl hcs hq (by decide) dL_law_1314 dL_law_1315 dL_law_1318 dL_law_1320 dL_law_1325 dL_law_1327 dL_law_1330 dL_law_1331 dL_law_1332 dL_law_1333 dL_law_1335 dL_law_1336 dL_law_1341 (fun H locs hW => kk _ _ _ hW (lv_sub hl [2, 3, 4, 5, 6, 7] rfl))
theorem ll_c25 (X : Cx p s m args meth c RL cL_law 9 ret0 D g x A) (hs : Scr9 b L xs s A) (hl0 : l.stackTraces = false) (hW : LLP D g α A s z H locs) (hl : lv_has ls 9 (lvB b α k)) (hk : k + 6 ≤ L) (hcs : cells + 8 ≤ 601024 ∧ slots + 48 ≤ 7293034) (hq : q_25 (fun j => xs (k + j)) z = some z1)
    (kk : ∀ (H1 : Heap) (locs1 : List Loc) (ls1 : Array Slot), LLP D g α A s z1 H1 locs1 → lv_has ls1 9 (lvB b α k) → W p l e room_1 s m args below meth c H1 locs1 (cells + 8) (slots + 48) Q (F0 m 2372 ls1 [])) : W p l e room_1 s m args below meth c H locs cells slots Q (F0 m 1344 ls []) := by
  obtain ⟨hx, hb, -⟩ := id X
  obtain ⟨a, ha, hq⟩ := o_b hq
  obtain ⟨b9, hb9, hq⟩ := o_b hq
  refine lv_aload_n hx hb dL_law_1344 rfl (lv_at hl 1 rfl) ?_
  refine lv_aload_n hx hb dL_law_1345 rfl (lv_at hl 3 rfl) ?_
  refine ll_h X (z := z) (As := [.ref (α.1 0), .ref α.2.2.2.1]) (H_steepest D g x l hl0 α.1 α.2.1 α.2.2.2.1 z.1  z.2.2.1 a ha) mh_steepest ml_L_216 ⟨(Nat.le_of_ble_eq_true rfl), (Nat.le_of_ble_eq_true rfl)⟩ (Nat.le_of_ble_eq_true rfl) hW rfl hl.1 rfl dL_law_1346 hcs (fun H locs hW => ?_)
  refine lv_istore (lv' := (6, .int a.1) :: lvB b α k) hx hb dL_law_1349 hl (by decide) rfl (fun ls hl => ?_)
  refine lv_aload_n hx hb dL_law_1351 rfl (lv_at hl 3 rfl) ?_
  refine ll_m X (z := (a.2.1, z.2.1, a.2.2, z.2.2.2)) (As := []) (rest := []) (st1 := [.int b9.1]) (K7_steepest D g x l α.2.2.1 z.2.1  b9 hb9) mw_X7_steepest ml_L_219 rfl ⟨(Nat.le_of_ble_eq_true rfl), (Nat.le_of_ble_eq_true rfl)⟩ hW rfl hl.1 rfl (Nat.le_of_ble_eq_true rfl) dL_law_1352 hcs rfl (fun H locs hW => ?_)
  refine lv_istore (lv' := (7, .int b9.1) :: (6, .int a.1) :: lvB b α k) hx hb dL_law_1355 hl (by decide) rfl (fun ls hl => ?_)
  exact ll_tI X (z := (a.2.1, b9.2, a.2.2, z.2.2.2)) hW hl hcs hq (by decide) dL_law_1357 dL_law_1358 dL_law_1361 dL_law_1363 dL_law_1368 dL_law_1370 dL_law_1373 dL_law_1374 dL_law_1375 dL_law_1376 dL_law_1378 dL_law_1379 dL_law_1380 dL_law_1385 (fun H locs hW => kk _ _ _ hW (lv_sub hl [2, 3, 4, 5, 6, 7] rfl))
theorem ll_c26 (X : Cx p s m args meth c RL cL_law 9 ret0 D g x A) (hs : Scr9 b L xs s A) (hl0 : l.stackTraces = false) (hW : LLP D g α A s z H locs) (hl : lv_has ls 9 (lvB b α k)) (hk : k + 6 ≤ L) (hcs : cells + 8 ≤ 601024 ∧ slots + 48 ≤ 7293034) (hq : q_26 (fun j => xs (k + j)) z = some z1)
    (kk : ∀ (H1 : Heap) (locs1 : List Loc) (ls1 : Array Slot), LLP D g α A s z1 H1 locs1 → lv_has ls1 9 (lvB b α k) → W p l e room_1 s m args below meth c H1 locs1 (cells + 8) (slots + 48) Q (F0 m 2372 ls1 [])) : W p l e room_1 s m args below meth c H locs cells slots Q (F0 m 1388 ls []) := by
  obtain ⟨hx, hb, -⟩ := id X
  obtain ⟨a, ha, hq⟩ := o_b hq
  obtain ⟨b9, hb9, hq⟩ := o_b hq
  refine lv_aload_n hx hb dL_law_1388 rfl (lv_at hl 1 rfl) ?_
  refine ll_ld X hs hW.2.2 (lv_at hl 0 rfl) (lv_at hl 5 rfl) 1 (by decide) (Nat.lt_of_lt_of_le (Nat.add_lt_add_left (by decide) k) hk) dL_law_1389 dL_law_1390 dL_law_1392 dL_law_1393 dL_law_1394 ?_
  refine ll_ld X hs hW.2.2 (lv_at hl 0 rfl) (lv_at hl 5 rfl) 2 (by decide) (Nat.lt_of_lt_of_le (Nat.add_lt_add_left (by decide) k) hk) dL_law_1395 dL_law_1396 dL_law_1398 dL_law_1399 dL_law_1400 ?_
  refine ll_ld X hs hW.2.2 (lv_at hl 0 rfl) (lv_at hl 5 rfl) 3 (by decide) (Nat.lt_of_lt_of_le (Nat.add_lt_add_left (by decide) k) hk) dL_law_1401 dL_law_1402 dL_law_1404 dL_law_1405 dL_law_1406 ?_
  refine lv_aload_n hx hb dL_law_1407 rfl (lv_at hl 3 rfl) ?_
  refine ll_h X (z := z) (As := [.ref (α.1 0), .int (xs (k + 1)), .int (xs (k + 2)), .int (xs (k + 3)), .ref α.2.2.2.1]) (H_divided D g x l hl0 α.1 α.2.1 α.2.2.2.1 z.1 (xs (k + 1)) (xs (k + 2)) (xs (k + 3)) z.2.2.1 a ha) mh_divided ml_L_220 ⟨(Nat.le_of_ble_eq_true rfl), (Nat.le_of_ble_eq_true rfl)⟩ (Nat.le_of_ble_eq_true rfl) hW rfl hl.1 rfl dL_law_1408 hcs (fun H locs hW => ?_)
  refine lv_istore (lv' := (6, .int a.1) :: lvB b α k) hx hb dL_law_1411 hl (by decide) rfl (fun ls hl => ?_)
  refine lv_aload_n hx hb dL_law_1413 rfl (lv_at hl 3 rfl) ?_
  refine ll_ld X hs hW.2.2 (lv_at hl 1 rfl) (lv_at hl 6 rfl) 1 (by decide) (Nat.lt_of_lt_of_le (Nat.add_lt_add_left (by decide) k) hk) dL_law_1414 dL_law_1415 dL_law_1417 dL_law_1418 dL_law_1419 ?_
  refine ll_ld X hs hW.2.2 (lv_at hl 1 rfl) (lv_at hl 6 rfl) 2 (by decide) (Nat.lt_of_lt_of_le (Nat.add_lt_add_left (by decide) k) hk) dL_law_1420 dL_law_1421 dL_law_1423 dL_law_1424 dL_law_1425 ?_
  refine ll_ld X hs hW.2.2 (lv_at hl 1 rfl) (lv_at hl 6 rfl) 3 (by decide) (Nat.lt_of_lt_of_le (Nat.add_lt_add_left (by decide) k) hk) dL_law_1426 dL_law_1427 dL_law_1429 dL_law_1430 dL_law_1431 ?_
  refine ll_m X (z := (a.2.1, z.2.1, a.2.2, z.2.2.2)) (As := [.int (xs (k + 1)), .int (xs (k + 2)), .int (xs (k + 3))]) (rest := []) (st1 := [.long b9.1]) (K7_divided D g x l α.2.2.1 z.2.1 (xs (k + 1)) (xs (k + 2)) (xs (k + 3)) b9 hb9) mw_X7_divided ml_L_222 rfl ⟨(Nat.le_of_ble_eq_true rfl), (Nat.le_of_ble_eq_true rfl)⟩ hW rfl hl.1 rfl (Nat.le_of_ble_eq_true rfl) dL_law_1432 hcs rfl (fun H locs hW => ?_)
  refine lv_lstore (lv' := (7, .long b9.1) :: (6, .int a.1) :: lvB b α k) hx hb dL_law_1435 hl (by decide) rfl (fun ls hl => ?_)
  exact ll_tJ X (z := (a.2.1, b9.2, a.2.2, z.2.2.2)) hW hl hcs hq (by decide) dL_law_1437 dL_law_1438 dL_law_1441 dL_law_1443 dL_law_1448 dL_law_1450 dL_law_1453 dL_law_1454 dL_law_1455 dL_law_1456 dL_law_1458 dL_law_1459 dL_law_1464 (fun H locs hW => kk _ _ _ hW (lv_sub hl [2, 3, 4, 5, 6, 7] rfl))
theorem ll_c27 (X : Cx p s m args meth c RL cL_law 9 ret0 D g x A) (hs : Scr9 b L xs s A) (hl0 : l.stackTraces = false) (hW : LLP D g α A s z H locs) (hl : lv_has ls 9 (lvB b α k)) (hk : k + 6 ≤ L) (hcs : cells + 8 ≤ 601024 ∧ slots + 48 ≤ 7293034) (hq : q_27 (fun j => xs (k + j)) z = some z1)
    (kk : ∀ (H1 : Heap) (locs1 : List Loc) (ls1 : Array Slot), LLP D g α A s z1 H1 locs1 → lv_has ls1 9 (lvB b α k) → W p l e room_1 s m args below meth c H1 locs1 (cells + 8) (slots + 48) Q (F0 m 2372 ls1 [])) : W p l e room_1 s m args below meth c H locs cells slots Q (F0 m 1467 ls []) := by
  obtain ⟨hx, hb, -⟩ := id X
  obtain ⟨a, ha, hq⟩ := o_b hq
  obtain ⟨b9, hb9, hq⟩ := o_b hq
  refine lv_aload_n hx hb dL_law_1467 rfl (lv_at hl 1 rfl) ?_
  refine ll_ld X hs hW.2.2 (lv_at hl 0 rfl) (lv_at hl 5 rfl) 1 (by decide) (Nat.lt_of_lt_of_le (Nat.add_lt_add_left (by decide) k) hk) dL_law_1468 dL_law_1469 dL_law_1471 dL_law_1472 dL_law_1473 ?_
  refine ll_ld X hs hW.2.2 (lv_at hl 0 rfl) (lv_at hl 5 rfl) 2 (by decide) (Nat.lt_of_lt_of_le (Nat.add_lt_add_left (by decide) k) hk) dL_law_1474 dL_law_1475 dL_law_1477 dL_law_1478 dL_law_1479 ?_
  refine lv_aload_n hx hb dL_law_1480 rfl (lv_at hl 3 rfl) ?_
  refine ll_h X (z := z) (As := [.ref (α.1 0), .int (xs (k + 1)), .int (xs (k + 2)), .ref α.2.2.2.1]) (H_plainValue D g x l hl0 α.1 α.2.1 α.2.2.2.1 z.1 (xs (k + 1)) (xs (k + 2)) z.2.2.1 a ha) mh_plainValue ml_L_223 ⟨(Nat.le_of_ble_eq_true rfl), (Nat.le_of_ble_eq_true rfl)⟩ (Nat.le_of_ble_eq_true rfl) hW rfl hl.1 rfl dL_law_1481 hcs (fun H locs hW => ?_)
  refine lv_istore (lv' := (6, .int a.1) :: lvB b α k) hx hb dL_law_1484 hl (by decide) rfl (fun ls hl => ?_)
  refine lv_aload_n hx hb dL_law_1486 rfl (lv_at hl 3 rfl) ?_
  refine ll_ld X hs hW.2.2 (lv_at hl 1 rfl) (lv_at hl 6 rfl) 1 (by decide) (Nat.lt_of_lt_of_le (Nat.add_lt_add_left (by decide) k) hk) dL_law_1487 dL_law_1488 dL_law_1490 dL_law_1491 dL_law_1492 ?_
  refine ll_ld X hs hW.2.2 (lv_at hl 1 rfl) (lv_at hl 6 rfl) 2 (by decide) (Nat.lt_of_lt_of_le (Nat.add_lt_add_left (by decide) k) hk) dL_law_1493 dL_law_1494 dL_law_1496 dL_law_1497 dL_law_1498 ?_
  refine ll_m X (z := (a.2.1, z.2.1, a.2.2, z.2.2.2)) (As := [.int (xs (k + 1)), .int (xs (k + 2))]) (rest := []) (st1 := [.long b9.1]) (K7_plainValue D g x l α.2.2.1 z.2.1 (xs (k + 1)) (xs (k + 2)) b9 hb9) mw_X7_plainValue ml_L_225 rfl ⟨(Nat.le_of_ble_eq_true rfl), (Nat.le_of_ble_eq_true rfl)⟩ hW rfl hl.1 rfl (Nat.le_of_ble_eq_true rfl) dL_law_1499 hcs rfl (fun H locs hW => ?_)
  refine lv_lstore (lv' := (7, .long b9.1) :: (6, .int a.1) :: lvB b α k) hx hb dL_law_1502 hl (by decide) rfl (fun ls hl => ?_)
  exact ll_tJ X (z := (a.2.1, b9.2, a.2.2, z.2.2.2)) hW hl hcs hq (by decide) dL_law_1504 dL_law_1505 dL_law_1508 dL_law_1510 dL_law_1515 dL_law_1517 dL_law_1520 dL_law_1521 dL_law_1522 dL_law_1523 dL_law_1525 dL_law_1526 dL_law_1531 (fun H locs hW => kk _ _ _ hW (lv_sub hl [2, 3, 4, 5, 6, 7] rfl))
theorem ll_c28 (X : Cx p s m args meth c RL cL_law 9 ret0 D g x A) (hs : Scr9 b L xs s A) (hl0 : l.stackTraces = false) (hW : LLP D g α A s z H locs) (hl : lv_has ls 9 (lvB b α k)) (hk : k + 6 ≤ L) (hcs : cells + 8 ≤ 601024 ∧ slots + 48 ≤ 7293034) (hq : q_28 (fun j => xs (k + j)) z = some z1)
    (kk : ∀ (H1 : Heap) (locs1 : List Loc) (ls1 : Array Slot), LLP D g α A s z1 H1 locs1 → lv_has ls1 9 (lvB b α k) → W p l e room_1 s m args below meth c H1 locs1 (cells + 8) (slots + 48) Q (F0 m 2372 ls1 [])) : W p l e room_1 s m args below meth c H locs cells slots Q (F0 m 1534 ls []) := by
  obtain ⟨hx, hb, -⟩ := id X
  obtain ⟨a, ha, hq⟩ := o_b hq
  obtain ⟨b9, hb9, hq⟩ := o_b hq
  refine lv_aload_n hx hb dL_law_1534 rfl (lv_at hl 1 rfl) ?_
  refine ll_ld X hs hW.2.2 (lv_at hl 0 rfl) (lv_at hl 5 rfl) 1 (by decide) (Nat.lt_of_lt_of_le (Nat.add_lt_add_left (by decide) k) hk) dL_law_1535 dL_law_1536 dL_law_1538 dL_law_1539 dL_law_1540 ?_
  refine ll_ld X hs hW.2.2 (lv_at hl 0 rfl) (lv_at hl 5 rfl) 2 (by decide) (Nat.lt_of_lt_of_le (Nat.add_lt_add_left (by decide) k) hk) dL_law_1541 dL_law_1542 dL_law_1544 dL_law_1545 dL_law_1546 ?_
  refine ll_ld X hs hW.2.2 (lv_at hl 0 rfl) (lv_at hl 5 rfl) 3 (by decide) (Nat.lt_of_lt_of_le (Nat.add_lt_add_left (by decide) k) hk) dL_law_1547 dL_law_1548 dL_law_1550 dL_law_1551 dL_law_1552 ?_
  refine ll_ld X hs hW.2.2 (lv_at hl 0 rfl) (lv_at hl 5 rfl) 4 (by decide) (Nat.lt_of_lt_of_le (Nat.add_lt_add_left (by decide) k) hk) dL_law_1553 dL_law_1554 dL_law_1556 dL_law_1557 dL_law_1558 ?_
  refine lv_aload_n hx hb dL_law_1559 rfl (lv_at hl 3 rfl) ?_
  refine ll_h X (z := z) (As := [.ref (α.1 0), .int (xs (k + 1)), .int (xs (k + 2)), .int (xs (k + 3)), .int (xs (k + 4)), .ref α.2.2.2.1]) (H_valueIf D g x l hl0 α.1 α.2.1 α.2.2.2.1 z.1 (xs (k + 1)) (xs (k + 2)) (xs (k + 3)) (xs (k + 4)) z.2.2.1 a ha) mh_valueIf ml_L_226 ⟨(Nat.le_of_ble_eq_true rfl), (Nat.le_of_ble_eq_true rfl)⟩ (Nat.le_of_ble_eq_true rfl) hW rfl hl.1 rfl dL_law_1560 hcs (fun H locs hW => ?_)
  refine lv_istore (lv' := (6, .int a.1) :: lvB b α k) hx hb dL_law_1563 hl (by decide) rfl (fun ls hl => ?_)
  refine lv_aload_n hx hb dL_law_1565 rfl (lv_at hl 3 rfl) ?_
  refine ll_ld X hs hW.2.2 (lv_at hl 1 rfl) (lv_at hl 6 rfl) 1 (by decide) (Nat.lt_of_lt_of_le (Nat.add_lt_add_left (by decide) k) hk) dL_law_1566 dL_law_1567 dL_law_1569 dL_law_1570 dL_law_1571 ?_
  refine ll_ld X hs hW.2.2 (lv_at hl 1 rfl) (lv_at hl 6 rfl) 2 (by decide) (Nat.lt_of_lt_of_le (Nat.add_lt_add_left (by decide) k) hk) dL_law_1572 dL_law_1573 dL_law_1575 dL_law_1576 dL_law_1577 ?_
  refine ll_ld X hs hW.2.2 (lv_at hl 1 rfl) (lv_at hl 6 rfl) 3 (by decide) (Nat.lt_of_lt_of_le (Nat.add_lt_add_left (by decide) k) hk) dL_law_1578 dL_law_1579 dL_law_1581 dL_law_1582 dL_law_1583 ?_
  refine ll_ld X hs hW.2.2 (lv_at hl 1 rfl) (lv_at hl 6 rfl) 4 (by decide) (Nat.lt_of_lt_of_le (Nat.add_lt_add_left (by decide) k) hk) dL_law_1584 dL_law_1585 dL_law_1587 dL_law_1588 dL_law_1589 ?_
  refine ll_m X (z := (a.2.1, z.2.1, a.2.2, z.2.2.2)) (As := [.int (xs (k + 1)), .int (xs (k + 2)), .int (xs (k + 3)), .int (xs (k + 4))]) (rest := []) (st1 := [.long b9.1]) (K7_valueIf D g x l α.2.2.1 z.2.1 (xs (k + 1)) (xs (k + 2)) (xs (k + 3)) (xs (k + 4)) b9 hb9) mw_X7_valueIf ml_L_229 rfl ⟨(Nat.le_of_ble_eq_true rfl), (Nat.le_of_ble_eq_true rfl)⟩ hW rfl hl.1 rfl (Nat.le_of_ble_eq_true rfl) dL_law_1590 hcs rfl (fun H locs hW => ?_)
  refine lv_lstore (lv' := (7, .long b9.1) :: (6, .int a.1) :: lvB b α k) hx hb dL_law_1593 hl (by decide) rfl (fun ls hl => ?_)
  exact ll_tJ X (z := (a.2.1, b9.2, a.2.2, z.2.2.2)) hW hl hcs hq (by decide) dL_law_1595 dL_law_1596 dL_law_1599 dL_law_1601 dL_law_1606 dL_law_1608 dL_law_1611 dL_law_1612 dL_law_1613 dL_law_1614 dL_law_1616 dL_law_1617 dL_law_1622 (fun H locs hW => kk _ _ _ hW (lv_sub hl [2, 3, 4, 5, 6, 7] rfl))
end LAWK
