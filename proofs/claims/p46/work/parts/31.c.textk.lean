/-! The contract of the law's text (by program). -/
section TX2
variable (D : va_G) (g : Nat → ClassId) (x : Xd) (l : Launch)
set_option maxHeartbeats 8000000 in
set_option maxRecDepth 100000 in
theorem kL_text (o xa ya wa : Nat) (n0 : Int32) (xs ys ws : Nat → Int32) : CnG D g x l yL_text cL_text 7 (some (.object "java/lang/String")) 7 420 60 41000 [.ref o, .int 0, .int 4, .int 5] (lW g o x.2.2.1 xa ya wa (nI 0) n0 xs ys ws) (fun z w => ∃ (ps : List (Int × Int × Int)) (N : Int) (j ta tb : Nat) (f xs ys ws : Nat → Int32), z = some (.ref ta) ∧ w = lW g o x.2.2.1 xa ya wa (nI j) (z3 N) xs ys ws ++ stW g ta tb (txs ps ++ litL 10).length f ∧ 1 ≤ N ∧ N ≤ 4 ∧ PSk N ps ∧ En 0 N xs (zX (azs ps)) ∧ En 0 N ys (zY (azs ps)) ∧ En 0 N ws (zW (azs ps)) ∧ Tx (txs ps ++ litL 10) f) := by
  refine CnG.a (Or.inl ⟨_, rfl⟩) (by decide +kernel) (Nat.le_of_ble_eq_true rfl) (fun p e s m args below meth c9 A Q ls X hnm hD hP hS fin hl => ?_)
  obtain ⟨hx, hb, hml, -, -, hown, hts, hK, hA, hE⟩ := id X
  have hl : lv_has ls 7 [(0, .ref o), (1, .int 0), (2, .int 4), (3, .int 5)] := hl
  have hR : 6 ≤ (rmC 7 420 60 41000).frames ∧ 300 ≤ (rmC 7 420 60 41000).locals := ⟨(Nat.le_of_ble_eq_true rfl), (Nat.le_of_ble_eq_true rfl)⟩
  refine lv_aload_n hx hb dL_text_0 rfl (lv_at hl 0 rfl) ?_
  refine lv_aload_n hx hb dL_text_1 rfl (lv_at hl 0 rfl) ?_
  refine lv_iconst (v := z3 1) hx hb dL_text_2 (by decide +kernel) ?_
  refine lv_iload_n hx hb dL_text_3 rfl (lv_at hl 2 rfl) ?_
  obtain ⟨u0, u1⟩ := drx_b (x := x) (k := 0) (m := 4 - 1 + 1) (by omega)
  refine mcallV X (As := [.int (z3 1), .int (z3 4)]) (rest := [.ref o]) (ws1 := lW g o x.2.2.1 xa ya wa (nI (0 + 1)) n0 xs ys ws) (st1 := [.int (z3 (1 + drx x 0 (4 - 1 + 1))), .ref o]) (kL_from D g x l o xa ya wa 0 n0 (by omega) 1 4 (by omega) (by omega) (by omega)) mw_L_from ml_L_61 ⟨(Nat.le_of_ble_eq_true rfl), (Nat.le_of_ble_eq_true rfl)⟩ hP hD hS [0] (by decide +kernel) rfl rfl 0 rfl rfl rfl hl.1 rfl (Nat.le_of_ble_eq_true rfl) dL_text_4 ⟨(Nat.le_of_ble_eq_true rfl), (Nat.le_of_ble_eq_true rfl)⟩ rfl rfl (fun H locs hP hD hS => ?_)
  obtain ⟨N, hN⟩ : ∃ v : Int, v = 1 + drx x 0 (4 - 1 + 1) := ⟨_, rfl⟩
  rw [← hN]
  have N1 : 1 ≤ N := by omega
  have N4 : N ≤ 4 := by omega
  refine mputI X fl_L_64 (ws1 := lW g o x.2.2.1 xa ya wa (nI (0 + 1)) (z3 N) xs ys ws) hP hD hS 0 rfl rfl ⟨_, rfl, rfl⟩ dL_text_7 rfl (fun H locs hP hD hS => ?_)
  refine va_ldcS hx hb hown (ldc_L_67 hE) dL_text_10 ?_
  refine lv_astore (lv' := [(4, .ref (x.1 5)), (0, .ref o), (1, .int 0), (2, .int 4), (3, .int 5)]) hx hb dL_text_12 hl (by decide) rfl (fun ls hl => ?_)
  refine lv_iconst (v := z3 0) hx hb dL_text_14 (by decide +kernel) ?_
  refine lv_istore (lv' := [(5, .int (z3 0)), (4, .ref (x.1 5)), (0, .ref o), (1, .int 0), (2, .int 4), (3, .int 5)]) hx hb dL_text_15 hl (by decide) rfl (fun ls hl => ?_)
  have e0 : ∀ (f : Nat → Int32) (F : Int → Int), En 0 0 f F := fun f F k k0 k1 => absurd k1 (by omega)
  obtain ⟨i, hi⟩ : ∃ i : Nat, (0 : Int) + i + 1 = N := ⟨(N - 1).toNat, by omega⟩
  refine txL X hR N1 N4 (fun ps j ta tb f xs ys ws H locs ls cells slots hc9 hs9 hps ex ey ew hTx hP hD hS hl => ?_) i 0 (0 + 1) (x.1 5) [] [] xs ys ws H _ ls 0 0 hi (Int.le_refl 0) (by omega) ⟨(show 0 + 12 * (i + 1) ≤ 60 by omega), by omega⟩ ⟨(show 0 + 9240 * (i + 1) ≤ 41000 by omega), by omega⟩ (TS0 D g x l) psk0 (e0 _ _) (e0 _ _) (e0 _ _) hP hD hS hl
  have hl : lv_has ls 7 [(5, .int (z3 N)), (4, .ref ta), (0, .ref o), (1, .int 0), (2, .int 4), (3, .int 5)] := hl
  have hc1 : ∀ q, q ≤ 12 → cells + q ≤ (rmC 7 420 60 41000).cells := fun q h => show cells + q ≤ 60 by omega
  have hs1 : ∀ q, q ≤ 4000 → slots + q ≤ (rmC 7 420 60 41000).slots := fun q h => show slots + q ≤ 41000 by omega
  have hl8 := hps.2.2.2.2.2.2.2.1
  refine lv_iload_n hx hb dL_text_172 rfl (lv_at hl 3 rfl) ?_
  refine lv_if_ge (tgt := 184) hx hb dL_text_173 (by decide) (fun _ => ?_) (fun b => absurd (show (0 : Int32) ≤ 0 by decide) b)
  refine lv_iload_n hx hb dL_text_184 rfl (lv_at hl 3 rfl) ?_
  refine lv_istore (lv' := [(5, .int 0), (4, .ref ta), (0, .ref o), (1, .int 0), (2, .int 4), (3, .int 5)]) hx hb dL_text_185 hl (by decide) rfl (fun ls hl => ?_)
  refine tapN X hR (lW g o x.2.2.1 xa ya wa (nI j) (z3 N) xs ys ws ++ stW g ta tb (txs ps).length f) hP hD hS hl.1 dL_text_187 dL_text_190 dL_text_191 ⟨hc1 2 (by omega), hs1 20 (by omega)⟩ (fun q r H locs hP hD hS => ?_)
  refine tapD X hR (lW g o x.2.2.1 xa ya wa (nI j) (z3 N) xs ys ws) (stW g ta tb (txs ps).length f) (TS1 D g x l hTx (by omega)) hP hD hS hl.1 (lv_at hl 1 rfl) dL_text_194 dL_text_196 ⟨hc1 3 (by omega), hs1 1044 (by omega)⟩ (fun r0 cap0 f0 H locs hc0 hL0 hf0 hP hD hS => ?_)
  refine lv_iload hx hb dL_text_199 (lv_at hl 0 rfl) ?_
  refine lv_if_ne (tgt := 209) hx hb dL_text_201 (by decide) (fun b => absurd rfl b) (fun _ => ?_)
  refine va_ldcS hx hb hown (ldc_L_95 hE) dL_text_204 ?_
  refine lv_goto (tgt := 248) hx hb dL_text_206 (by decide) ?_
  have l9 : (litL 10).length = 6 := rfl
  refine gcallV0 X (As := [.ref (x.1 10)]) (rest := []) (wr := lW g o x.2.2.1 xa ya wa (nI j) (z3 N) xs ys ws) (kJ4c_app D g x l q r0 cap0 (txs ps) f0 hf0 hL0 hc0 10 (by decide) (by rw [List.length_append]; omega)) mw_J4_append_15ec4 ml_L_76 ⟨Nat.le_trans (by decide) hR.1, Nat.le_trans (by decide) hR.2⟩ hP hD hS rfl rfl rfl hl.1 rfl (by decide) dL_text_248 ⟨hc1 4 (by omega), hs1 2068 (by omega)⟩ (fun v w1 H locs hp hP hD hS => ?_)
  obtain ⟨rfl, r1, cap1, f1, rfl, h1, h2, h3⟩ := hp
  refine tapT X hR (lW g o x.2.2.1 xa ya wa (nI j) (z3 N) xs ys ws) h3 h2 h1 hP hD hS hl.1 dL_text_251 ⟨hc1 6 (by omega), hs1 3096 (by omega)⟩ (fun ta tb f9 H locs hf9 hP hD hS => ?_)
  refine W.widen (k := 60) (n := 41000) (by omega) (by omega) ?_
  exact fin (some (.ref ta)) _ _ _ _ _ ⟨ps, N, j, ta, tb, f9, xs, ys, ws, rfl, rfl, N1, N4, hps, ex, ey, ew, hf9⟩ (fun z h => by cases h; exact ⟨ta, rfl⟩) (by constructor <;> (intro h; cases h)) hP hD hS dL_text_254
end TX2
