/-! the law's cases 3 to 14 -/
section LAWK
variable {p : Program} {l : Launch} {e : Env} {s : State} {m : MethodId} {args : Array Value} {below : List Frame} {meth : Method} {c : Code} {H : Heap} {locs : List Loc} {cells slots : Nat} {Q : State → Prop}
variable {D : va_G} {g : Nat → ClassId} {x : Xd} {A : Nat → Prop} {ret0 : Option FieldType} {b L k : Nat} {xs : Nat → Int32} {α : Adr9} {z z1 : SL} {ls : Array Slot}
theorem ll_c3 (X : Cx p s m args meth c RL cL_law 9 ret0 D g x A) (hs : Scr9 b L xs s A) (hW : LLP D g α A s z H locs) (hl : lv_has ls 9 (lvB b α k)) (hk : k + 6 ≤ L) (hcs : cells + 8 ≤ 601024 ∧ slots + 48 ≤ 7293034) (hq : q_3 (fun j => xs (k + j)) z = some z1)
    (kk : ∀ (H1 : Heap) (locs1 : List Loc) (ls1 : Array Slot), LLP D g α A s z1 H1 locs1 → lv_has ls1 9 (lvB b α k) → W p l e room_1 s m args below meth c H1 locs1 (cells + 8) (slots + 48) Q (F0 m 2372 ls1 [])) : W p l e room_1 s m args below meth c H locs cells slots Q (F0 m 374 ls []) := by
  obtain ⟨hx, hb, -⟩ := id X
  obtain ⟨a, ha, hq⟩ := o_b hq
  obtain ⟨b9, hb9, hq⟩ := o_b hq
  refine lv_aload_n hx hb dL_law_374 rfl (lv_at hl 1 rfl) ?_
  refine ll_x X (z := z) (As := []) (rest := []) (st1 := [.int a.1]) (K6_errorPosition D g x l α.1 α.2.1 z.1  a ha) mw_X6_errorPosition ml_L_133 rfl ⟨(Nat.le_of_ble_eq_true rfl), (Nat.le_of_ble_eq_true rfl)⟩ hW rfl hl.1 rfl (Nat.le_of_ble_eq_true rfl) dL_law_375 hcs rfl (fun H locs hW => ?_)
  refine lv_aload_n hx hb dL_law_378 rfl (lv_at hl 2 rfl) ?_
  refine ll_m X (z := (a.2, z.2)) (As := []) (rest := [.int a.1]) (st1 := [.int b9.1, .int a.1]) (K7_errorPosition D g x l α.2.2.1 z.2.1  b9 hb9) mw_X7_errorPosition ml_L_136 rfl ⟨(Nat.le_of_ble_eq_true rfl), (Nat.le_of_ble_eq_true rfl)⟩ hW rfl hl.1 rfl (Nat.le_of_ble_eq_true rfl) dL_law_379 ⟨Nat.le_trans (Nat.le_add_right cells 8) hcs.1, Nat.le_trans (Nat.le_add_right slots 48) hcs.2⟩ rfl (fun H locs hW => ?_)
  obtain ⟨hv, hq⟩ := o_y hq
  refine lv_icmp_eq (tgt := 2372) hx hb dL_law_382 (by decide) (fun _ => ?_) (fun w => absurd hv w)
  cases hq
  exact W.widen (Nat.le_add_right cells 8) (Nat.le_add_right slots 48) (kk _ _ _ hW hl)
theorem ll_c4 (X : Cx p s m args meth c RL cL_law 9 ret0 D g x A) (hs : Scr9 b L xs s A) (hW : LLP D g α A s z H locs) (hl : lv_has ls 9 (lvB b α k)) (hk : k + 6 ≤ L) (hcs : cells + 8 ≤ 601024 ∧ slots + 48 ≤ 7293034) (hq : q_4 (fun j => xs (k + j)) z = some z1)
    (kk : ∀ (H1 : Heap) (locs1 : List Loc) (ls1 : Array Slot), LLP D g α A s z1 H1 locs1 → lv_has ls1 9 (lvB b α k) → W p l e room_1 s m args below meth c H1 locs1 (cells + 8) (slots + 48) Q (F0 m 2372 ls1 [])) : W p l e room_1 s m args below meth c H locs cells slots Q (F0 m 387 ls []) := by
  obtain ⟨hx, hb, -⟩ := id X
  obtain ⟨a, ha, hq⟩ := o_b hq
  obtain ⟨b9, hb9, hq⟩ := o_b hq
  refine lv_aload_n hx hb dL_law_387 rfl (lv_at hl 1 rfl) ?_
  refine ll_x X (z := z) (As := []) (rest := []) (st1 := [.int a.1]) (K6_points D g x l α.1 α.2.1 z.1  a ha) mw_X6_points ml_L_137 rfl ⟨(Nat.le_of_ble_eq_true rfl), (Nat.le_of_ble_eq_true rfl)⟩ hW rfl hl.1 rfl (Nat.le_of_ble_eq_true rfl) dL_law_388 hcs rfl (fun H locs hW => ?_)
  refine lv_aload_n hx hb dL_law_391 rfl (lv_at hl 2 rfl) ?_
  refine ll_m X (z := (a.2, z.2)) (As := []) (rest := [.int a.1]) (st1 := [.int b9.1, .int a.1]) (K7_points D g x l α.2.2.1 z.2.1  b9 hb9) mw_X7_points ml_L_140 rfl ⟨(Nat.le_of_ble_eq_true rfl), (Nat.le_of_ble_eq_true rfl)⟩ hW rfl hl.1 rfl (Nat.le_of_ble_eq_true rfl) dL_law_392 ⟨Nat.le_trans (Nat.le_add_right cells 8) hcs.1, Nat.le_trans (Nat.le_add_right slots 48) hcs.2⟩ rfl (fun H locs hW => ?_)
  obtain ⟨hv, hq⟩ := o_y hq
  refine lv_icmp_eq (tgt := 2372) hx hb dL_law_395 (by decide) (fun _ => ?_) (fun w => absurd hv w)
  cases hq
  exact W.widen (Nat.le_add_right cells 8) (Nat.le_add_right slots 48) (kk _ _ _ hW hl)
theorem ll_c5 (X : Cx p s m args meth c RL cL_law 9 ret0 D g x A) (hs : Scr9 b L xs s A) (hW : LLP D g α A s z H locs) (hl : lv_has ls 9 (lvB b α k)) (hk : k + 6 ≤ L) (hcs : cells + 8 ≤ 601024 ∧ slots + 48 ≤ 7293034) (hq : q_5 (fun j => xs (k + j)) z = some z1)
    (kk : ∀ (H1 : Heap) (locs1 : List Loc) (ls1 : Array Slot), LLP D g α A s z1 H1 locs1 → lv_has ls1 9 (lvB b α k) → W p l e room_1 s m args below meth c H1 locs1 (cells + 8) (slots + 48) Q (F0 m 2372 ls1 [])) : W p l e room_1 s m args below meth c H locs cells slots Q (F0 m 400 ls []) := by
  obtain ⟨hx, hb, -⟩ := id X
  obtain ⟨a, ha, hq⟩ := o_b hq
  obtain ⟨b9, hb9, hq⟩ := o_b hq
  refine lv_aload_n hx hb dL_law_400 rfl (lv_at hl 1 rfl) ?_
  refine ll_x X (z := z) (As := []) (rest := []) (st1 := [.int a.1]) (K6_mode D g x l α.1 α.2.1 z.1  a ha) mw_X6_mode ml_L_141 rfl ⟨(Nat.le_of_ble_eq_true rfl), (Nat.le_of_ble_eq_true rfl)⟩ hW rfl hl.1 rfl (Nat.le_of_ble_eq_true rfl) dL_law_401 hcs rfl (fun H locs hW => ?_)
  refine lv_aload_n hx hb dL_law_404 rfl (lv_at hl 2 rfl) ?_
  refine ll_m X (z := (a.2, z.2)) (As := []) (rest := [.int a.1]) (st1 := [.int b9.1, .int a.1]) (K7_mode D g x l α.2.2.1 z.2.1  b9 hb9) mw_X7_mode ml_L_144 rfl ⟨(Nat.le_of_ble_eq_true rfl), (Nat.le_of_ble_eq_true rfl)⟩ hW rfl hl.1 rfl (Nat.le_of_ble_eq_true rfl) dL_law_405 ⟨Nat.le_trans (Nat.le_add_right cells 8) hcs.1, Nat.le_trans (Nat.le_add_right slots 48) hcs.2⟩ rfl (fun H locs hW => ?_)
  obtain ⟨hv, hq⟩ := o_y hq
  refine lv_icmp_eq (tgt := 2372) hx hb dL_law_408 (by decide) (fun _ => ?_) (fun w => absurd hv w)
  cases hq
  exact W.widen (Nat.le_add_right cells 8) (Nat.le_add_right slots 48) (kk _ _ _ hW hl)
theorem ll_c6 (X : Cx p s m args meth c RL cL_law 9 ret0 D g x A) (hs : Scr9 b L xs s A) (hW : LLP D g α A s z H locs) (hl : lv_has ls 9 (lvB b α k)) (hk : k + 6 ≤ L) (hcs : cells + 8 ≤ 601024 ∧ slots + 48 ≤ 7293034) (hq : q_6 (fun j => xs (k + j)) z = some z1)
    (kk : ∀ (H1 : Heap) (locs1 : List Loc) (ls1 : Array Slot), LLP D g α A s z1 H1 locs1 → lv_has ls1 9 (lvB b α k) → W p l e room_1 s m args below meth c H1 locs1 (cells + 8) (slots + 48) Q (F0 m 2372 ls1 [])) : W p l e room_1 s m args below meth c H locs cells slots Q (F0 m 413 ls []) := by
  obtain ⟨hx, hb, -⟩ := id X
  obtain ⟨a, ha, hq⟩ := o_b hq
  obtain ⟨b9, hb9, hq⟩ := o_b hq
  refine lv_aload_n hx hb dL_law_413 rfl (lv_at hl 1 rfl) ?_
  refine ll_x X (z := z) (As := []) (rest := []) (st1 := [.int a.1]) (K6_degree D g x l α.1 α.2.1 z.1  a ha) mw_X6_degree ml_L_145 rfl ⟨(Nat.le_of_ble_eq_true rfl), (Nat.le_of_ble_eq_true rfl)⟩ hW rfl hl.1 rfl (Nat.le_of_ble_eq_true rfl) dL_law_414 hcs rfl (fun H locs hW => ?_)
  refine lv_aload_n hx hb dL_law_417 rfl (lv_at hl 2 rfl) ?_
  refine ll_m X (z := (a.2, z.2)) (As := []) (rest := [.int a.1]) (st1 := [.int b9.1, .int a.1]) (K7_degree D g x l α.2.2.1 z.2.1  b9 hb9) mw_X7_degree ml_L_148 rfl ⟨(Nat.le_of_ble_eq_true rfl), (Nat.le_of_ble_eq_true rfl)⟩ hW rfl hl.1 rfl (Nat.le_of_ble_eq_true rfl) dL_law_418 ⟨Nat.le_trans (Nat.le_add_right cells 8) hcs.1, Nat.le_trans (Nat.le_add_right slots 48) hcs.2⟩ rfl (fun H locs hW => ?_)
  obtain ⟨hv, hq⟩ := o_y hq
  refine lv_icmp_eq (tgt := 2372) hx hb dL_law_421 (by decide) (fun _ => ?_) (fun w => absurd hv w)
  cases hq
  exact W.widen (Nat.le_add_right cells 8) (Nat.le_add_right slots 48) (kk _ _ _ hW hl)
theorem ll_c7 (X : Cx p s m args meth c RL cL_law 9 ret0 D g x A) (hs : Scr9 b L xs s A) (hl0 : l.stackTraces = false) (hW : LLP D g α A s z H locs) (hl : lv_has ls 9 (lvB b α k)) (hk : k + 6 ≤ L) (hcs : cells + 8 ≤ 601024 ∧ slots + 48 ≤ 7293034) (hq : q_7 (fun j => xs (k + j)) z = some z1)
    (kk : ∀ (H1 : Heap) (locs1 : List Loc) (ls1 : Array Slot), LLP D g α A s z1 H1 locs1 → lv_has ls1 9 (lvB b α k) → W p l e room_1 s m args below meth c H1 locs1 (cells + 8) (slots + 48) Q (F0 m 2372 ls1 [])) : W p l e room_1 s m args below meth c H locs cells slots Q (F0 m 426 ls []) := by
  obtain ⟨hx, hb, -⟩ := id X
  obtain ⟨a, ha, hq⟩ := o_b hq
  obtain ⟨b9, hb9, hq⟩ := o_b hq
  refine lv_aload_n hx hb dL_law_426 rfl (lv_at hl 1 rfl) ?_
  refine ll_ld X hs hW.2.2 (lv_at hl 0 rfl) (lv_at hl 5 rfl) 1 (by decide) (Nat.lt_of_lt_of_le (Nat.add_lt_add_left (by decide) k) hk) dL_law_427 dL_law_428 dL_law_430 dL_law_431 dL_law_432 ?_
  refine ll_ld X hs hW.2.2 (lv_at hl 0 rfl) (lv_at hl 5 rfl) 2 (by decide) (Nat.lt_of_lt_of_le (Nat.add_lt_add_left (by decide) k) hk) dL_law_433 dL_law_434 dL_law_436 dL_law_437 dL_law_438 ?_
  refine lv_aload_n hx hb dL_law_439 rfl (lv_at hl 3 rfl) ?_
  refine ll_h X (z := z) (As := [.ref (α.1 0), .int (xs (k + 1)), .int (xs (k + 2)), .ref α.2.2.2.1]) (H_point D g x l hl0 α.1 α.2.1 α.2.2.2.1 z.1 (xs (k + 1)) (xs (k + 2)) z.2.2.1 a ha) mh_point ml_L_149 ⟨(Nat.le_of_ble_eq_true rfl), (Nat.le_of_ble_eq_true rfl)⟩ (Nat.le_of_ble_eq_true rfl) hW rfl hl.1 rfl dL_law_440 hcs (fun H locs hW => ?_)
  refine lv_istore (lv' := (6, .int a.1) :: lvB b α k) hx hb dL_law_443 hl (by decide) rfl (fun ls hl => ?_)
  refine lv_aload_n hx hb dL_law_445 rfl (lv_at hl 3 rfl) ?_
  refine ll_ld X hs hW.2.2 (lv_at hl 1 rfl) (lv_at hl 6 rfl) 1 (by decide) (Nat.lt_of_lt_of_le (Nat.add_lt_add_left (by decide) k) hk) dL_law_446 dL_law_447 dL_law_449 dL_law_450 dL_law_451 ?_
  refine ll_ld X hs hW.2.2 (lv_at hl 1 rfl) (lv_at hl 6 rfl) 2 (by decide) (Nat.lt_of_lt_of_le (Nat.add_lt_add_left (by decide) k) hk) dL_law_452 dL_law_453 dL_law_455 dL_law_456 dL_law_457 ?_
  refine ll_m X (z := (a.2.1, z.2.1, a.2.2, z.2.2.2)) (As := [.int (xs (k + 1)), .int (xs (k + 2))]) (rest := []) (st1 := [.int b9.1]) (K7_point D g x l α.2.2.1 z.2.1 (xs (k + 1)) (xs (k + 2)) b9 hb9) mw_X7_point ml_L_152 rfl ⟨(Nat.le_of_ble_eq_true rfl), (Nat.le_of_ble_eq_true rfl)⟩ hW rfl hl.1 rfl (Nat.le_of_ble_eq_true rfl) dL_law_458 hcs rfl (fun H locs hW => ?_)
  refine lv_istore (lv' := (7, .int b9.1) :: (6, .int a.1) :: lvB b α k) hx hb dL_law_461 hl (by decide) rfl (fun ls hl => ?_)
  exact ll_tI X (z := (a.2.1, b9.2, a.2.2, z.2.2.2)) hW hl hcs hq (by decide) dL_law_463 dL_law_464 dL_law_467 dL_law_469 dL_law_474 dL_law_476 dL_law_479 dL_law_480 dL_law_481 dL_law_482 dL_law_484 dL_law_485 dL_law_486 dL_law_491 (fun H locs hW => kk _ _ _ hW (lv_sub hl [2, 3, 4, 5, 6, 7] rfl))
theorem ll_c8 (X : Cx p s m args meth c RL cL_law 9 ret0 D g x A) (hs : Scr9 b L xs s A) (hl0 : l.stackTraces = false) (hW : LLP D g α A s z H locs) (hl : lv_has ls 9 (lvB b α k)) (hk : k + 6 ≤ L) (hcs : cells + 8 ≤ 601024 ∧ slots + 48 ≤ 7293034) (hq : q_8 (fun j => xs (k + j)) z = some z1)
    (kk : ∀ (H1 : Heap) (locs1 : List Loc) (ls1 : Array Slot), LLP D g α A s z1 H1 locs1 → lv_has ls1 9 (lvB b α k) → W p l e room_1 s m args below meth c H1 locs1 (cells + 8) (slots + 48) Q (F0 m 2372 ls1 [])) : W p l e room_1 s m args below meth c H locs cells slots Q (F0 m 494 ls []) := by
  obtain ⟨hx, hb, -⟩ := id X
  obtain ⟨a, ha, hq⟩ := o_b hq
  obtain ⟨b9, hb9, hq⟩ := o_b hq
  refine lv_aload_n hx hb dL_law_494 rfl (lv_at hl 1 rfl) ?_
  refine ll_ld X hs hW.2.2 (lv_at hl 0 rfl) (lv_at hl 5 rfl) 1 (by decide) (Nat.lt_of_lt_of_le (Nat.add_lt_add_left (by decide) k) hk) dL_law_495 dL_law_496 dL_law_498 dL_law_499 dL_law_500 ?_
  refine lv_aload_n hx hb dL_law_501 rfl (lv_at hl 3 rfl) ?_
  refine ll_h X (z := z) (As := [.ref (α.1 0), .int (xs (k + 1)), .ref α.2.2.2.1]) (H_pointAt D g x l hl0 α.1 α.2.1 α.2.2.2.1 z.1 (xs (k + 1)) z.2.2.1 a ha) mh_pointAt ml_L_153 ⟨(Nat.le_of_ble_eq_true rfl), (Nat.le_of_ble_eq_true rfl)⟩ (Nat.le_of_ble_eq_true rfl) hW rfl hl.1 rfl dL_law_502 hcs (fun H locs hW => ?_)
  refine lv_istore (lv' := (6, .int a.1) :: lvB b α k) hx hb dL_law_505 hl (by decide) rfl (fun ls hl => ?_)
  refine lv_aload_n hx hb dL_law_507 rfl (lv_at hl 3 rfl) ?_
  refine ll_ld X hs hW.2.2 (lv_at hl 1 rfl) (lv_at hl 6 rfl) 1 (by decide) (Nat.lt_of_lt_of_le (Nat.add_lt_add_left (by decide) k) hk) dL_law_508 dL_law_509 dL_law_511 dL_law_512 dL_law_513 ?_
  refine ll_m X (z := (a.2.1, z.2.1, a.2.2, z.2.2.2)) (As := [.int (xs (k + 1))]) (rest := []) (st1 := [.int b9.1]) (K7_pointAt D g x l α.2.2.1 z.2.1 (xs (k + 1)) b9 hb9) mw_X7_pointAt ml_L_155 rfl ⟨(Nat.le_of_ble_eq_true rfl), (Nat.le_of_ble_eq_true rfl)⟩ hW rfl hl.1 rfl (Nat.le_of_ble_eq_true rfl) dL_law_514 hcs rfl (fun H locs hW => ?_)
  refine lv_istore (lv' := (7, .int b9.1) :: (6, .int a.1) :: lvB b α k) hx hb dL_law_517 hl (by decide) rfl (fun ls hl => ?_)
  exact ll_tI X (z := (a.2.1, b9.2, a.2.2, z.2.2.2)) hW hl hcs hq (by decide) dL_law_519 dL_law_520 dL_law_523 dL_law_525 dL_law_530 dL_law_532 dL_law_535 dL_law_536 dL_law_537 dL_law_538 dL_law_540 dL_law_541 dL_law_542 dL_law_547 (fun H locs hW => kk _ _ _ hW (lv_sub hl [2, 3, 4, 5, 6, 7] rfl))
theorem ll_c9 (X : Cx p s m args meth c RL cL_law 9 ret0 D g x A) (hs : Scr9 b L xs s A) (hl0 : l.stackTraces = false) (hW : LLP D g α A s z H locs) (hl : lv_has ls 9 (lvB b α k)) (hk : k + 6 ≤ L) (hcs : cells + 8 ≤ 601024 ∧ slots + 48 ≤ 7293034) (hq : q_9 (fun j => xs (k + j)) z = some z1)
    (kk : ∀ (H1 : Heap) (locs1 : List Loc) (ls1 : Array Slot), LLP D g α A s z1 H1 locs1 → lv_has ls1 9 (lvB b α k) → W p l e room_1 s m args below meth c H1 locs1 (cells + 8) (slots + 48) Q (F0 m 2372 ls1 [])) : W p l e room_1 s m args below meth c H locs cells slots Q (F0 m 550 ls []) := by
  obtain ⟨hx, hb, -⟩ := id X
  obtain ⟨a, ha, hq⟩ := o_b hq
  obtain ⟨b9, hb9, hq⟩ := o_b hq
  refine lv_aload_n hx hb dL_law_550 rfl (lv_at hl 1 rfl) ?_
  refine ll_ld X hs hW.2.2 (lv_at hl 0 rfl) (lv_at hl 5 rfl) 1 (by decide) (Nat.lt_of_lt_of_le (Nat.add_lt_add_left (by decide) k) hk) dL_law_551 dL_law_552 dL_law_554 dL_law_555 dL_law_556 ?_
  refine lv_aload_n hx hb dL_law_557 rfl (lv_at hl 3 rfl) ?_
  refine ll_h X (z := z) (As := [.ref (α.1 0), .int (xs (k + 1)), .ref α.2.2.2.1]) (H_weight D g x l hl0 α.1 α.2.1 α.2.2.2.1 z.1 (xs (k + 1)) z.2.2.1 a ha) mh_weight ml_L_156 ⟨(Nat.le_of_ble_eq_true rfl), (Nat.le_of_ble_eq_true rfl)⟩ (Nat.le_of_ble_eq_true rfl) hW rfl hl.1 rfl dL_law_558 hcs (fun H locs hW => ?_)
  refine lv_istore (lv' := (6, .int a.1) :: lvB b α k) hx hb dL_law_561 hl (by decide) rfl (fun ls hl => ?_)
  refine lv_aload_n hx hb dL_law_563 rfl (lv_at hl 3 rfl) ?_
  refine ll_ld X hs hW.2.2 (lv_at hl 1 rfl) (lv_at hl 6 rfl) 1 (by decide) (Nat.lt_of_lt_of_le (Nat.add_lt_add_left (by decide) k) hk) dL_law_564 dL_law_565 dL_law_567 dL_law_568 dL_law_569 ?_
  refine ll_m X (z := (a.2.1, z.2.1, a.2.2, z.2.2.2)) (As := [.int (xs (k + 1))]) (rest := []) (st1 := [.long b9.1]) (K7_weight D g x l α.2.2.1 z.2.1 (xs (k + 1)) b9 hb9) mw_X7_weight ml_L_158 rfl ⟨(Nat.le_of_ble_eq_true rfl), (Nat.le_of_ble_eq_true rfl)⟩ hW rfl hl.1 rfl (Nat.le_of_ble_eq_true rfl) dL_law_570 hcs rfl (fun H locs hW => ?_)
  refine lv_lstore (lv' := (7, .long b9.1) :: (6, .int a.1) :: lvB b α k) hx hb dL_law_573 hl (by decide) rfl (fun ls hl => ?_)
  exact ll_tJ X (z := (a.2.1, b9.2, a.2.2, z.2.2.2)) hW hl hcs hq (by decide) dL_law_575 dL_law_576 dL_law_579 dL_law_581 dL_law_586 dL_law_588 dL_law_591 dL_law_592 dL_law_593 dL_law_594 dL_law_596 dL_law_597 dL_law_602 (fun H locs hW => kk _ _ _ hW (lv_sub hl [2, 3, 4, 5, 6, 7] rfl))
theorem ll_c10 (X : Cx p s m args meth c RL cL_law 9 ret0 D g x A) (hs : Scr9 b L xs s A) (hW : LLP D g α A s z H locs) (hl : lv_has ls 9 (lvB b α k)) (hk : k + 6 ≤ L) (hcs : cells + 8 ≤ 601024 ∧ slots + 48 ≤ 7293034) (hq : q_10 (fun j => xs (k + j)) z = some z1)
    (kk : ∀ (H1 : Heap) (locs1 : List Loc) (ls1 : Array Slot), LLP D g α A s z1 H1 locs1 → lv_has ls1 9 (lvB b α k) → W p l e room_1 s m args below meth c H1 locs1 (cells + 8) (slots + 48) Q (F0 m 2372 ls1 [])) : W p l e room_1 s m args below meth c H locs cells slots Q (F0 m 605 ls []) := by
  obtain ⟨hx, hb, -⟩ := id X
  obtain ⟨a, ha, hq⟩ := o_b hq
  obtain ⟨b9, hb9, hq⟩ := o_b hq
  refine lv_aload_n hx hb dL_law_605 rfl (lv_at hl 1 rfl) ?_
  refine ll_x X (z := z) (As := []) (rest := []) (st1 := [.int a.1]) (K6_isAlternating D g x l α.1 α.2.1 z.1  a ha) mw_X6_isAlternating ml_L_159 rfl ⟨(Nat.le_of_ble_eq_true rfl), (Nat.le_of_ble_eq_true rfl)⟩ hW rfl hl.1 rfl (Nat.le_of_ble_eq_true rfl) dL_law_606 hcs rfl (fun H locs hW => ?_)
  refine lv_aload_n hx hb dL_law_609 rfl (lv_at hl 2 rfl) ?_
  refine ll_m X (z := (a.2, z.2)) (As := []) (rest := [.int a.1]) (st1 := [.int b9.1, .int a.1]) (K7_isAlternating D g x l α.2.2.1 z.2.1  b9 hb9) mw_X7_isAlternating ml_L_163 rfl ⟨(Nat.le_of_ble_eq_true rfl), (Nat.le_of_ble_eq_true rfl)⟩ hW rfl hl.1 rfl (Nat.le_of_ble_eq_true rfl) dL_law_610 ⟨Nat.le_trans (Nat.le_add_right cells 8) hcs.1, Nat.le_trans (Nat.le_add_right slots 48) hcs.2⟩ rfl (fun H locs hW => ?_)
  obtain ⟨hv, hq⟩ := o_y hq
  refine lv_icmp_eq (tgt := 2372) hx hb dL_law_613 (by decide) (fun _ => ?_) (fun w => absurd hv w)
  cases hq
  exact W.widen (Nat.le_add_right cells 8) (Nat.le_add_right slots 48) (kk _ _ _ hW hl)
theorem ll_c11 (X : Cx p s m args meth c RL cL_law 9 ret0 D g x A) (hs : Scr9 b L xs s A) (hW : LLP D g α A s z H locs) (hl : lv_has ls 9 (lvB b α k)) (hk : k + 6 ≤ L) (hcs : cells + 8 ≤ 601024 ∧ slots + 48 ≤ 7293034) (hq : q_11 (fun j => xs (k + j)) z = some z1)
    (kk : ∀ (H1 : Heap) (locs1 : List Loc) (ls1 : Array Slot), LLP D g α A s z1 H1 locs1 → lv_has ls1 9 (lvB b α k) → W p l e room_1 s m args below meth c H1 locs1 (cells + 8) (slots + 48) Q (F0 m 2372 ls1 [])) : W p l e room_1 s m args below meth c H locs cells slots Q (F0 m 618 ls []) := by
  obtain ⟨hx, hb, -⟩ := id X
  obtain ⟨a, ha, hq⟩ := o_b hq
  obtain ⟨b9, hb9, hq⟩ := o_b hq
  refine lv_aload_n hx hb dL_law_618 rfl (lv_at hl 1 rfl) ?_
  refine ll_x X (z := z) (As := []) (rest := []) (st1 := [.long a.1]) (K6_weightSum D g x l α.1 α.2.1 z.1  a ha) mw_X6_weightSum ml_L_164 rfl ⟨(Nat.le_of_ble_eq_true rfl), (Nat.le_of_ble_eq_true rfl)⟩ hW rfl hl.1 rfl (Nat.le_of_ble_eq_true rfl) dL_law_619 hcs rfl (fun H locs hW => ?_)
  refine lv_aload_n hx hb dL_law_622 rfl (lv_at hl 2 rfl) ?_
  refine ll_m X (z := (a.2, z.2)) (As := []) (rest := [.long a.1]) (st1 := [.long b9.1, .long a.1]) (K7_weightSum D g x l α.2.2.1 z.2.1  b9 hb9) mw_X7_weightSum ml_L_168 rfl ⟨(Nat.le_of_ble_eq_true rfl), (Nat.le_of_ble_eq_true rfl)⟩ hW rfl hl.1 rfl (Nat.le_of_ble_eq_true rfl) dL_law_623 ⟨Nat.le_trans (Nat.le_add_right cells 8) hcs.1, Nat.le_trans (Nat.le_add_right slots 48) hcs.2⟩ rfl (fun H locs hW => ?_)
  obtain ⟨hv, hq⟩ := o_y hq
  refine W.lcmp hx hb dL_law_626 ?_
  refine lv_if_eq (tgt := 2372) hx hb dL_law_627 (by decide) (fun _ => ?_) (fun w => absurd (lg_cmp_self hv) w)
  cases hq
  exact W.widen (Nat.le_add_right cells 8) (Nat.le_add_right slots 48) (kk _ _ _ hW hl)
theorem ll_c12 (X : Cx p s m args meth c RL cL_law 9 ret0 D g x A) (hs : Scr9 b L xs s A) (hW : LLP D g α A s z H locs) (hl : lv_has ls 9 (lvB b α k)) (hk : k + 6 ≤ L) (hcs : cells + 8 ≤ 601024 ∧ slots + 48 ≤ 7293034) (hq : q_12 (fun j => xs (k + j)) z = some z1)
    (kk : ∀ (H1 : Heap) (locs1 : List Loc) (ls1 : Array Slot), LLP D g α A s z1 H1 locs1 → lv_has ls1 9 (lvB b α k) → W p l e room_1 s m args below meth c H1 locs1 (cells + 8) (slots + 48) Q (F0 m 2372 ls1 [])) : W p l e room_1 s m args below meth c H locs cells slots Q (F0 m 632 ls []) := by
  obtain ⟨hx, hb, -⟩ := id X
  obtain ⟨a, ha, hq⟩ := o_b hq
  obtain ⟨b9, hb9, hq⟩ := o_b hq
  refine lv_aload_n hx hb dL_law_632 rfl (lv_at hl 1 rfl) ?_
  refine ll_lb X hs hW.2.2 (lv_at hl 0 rfl) (lv_at hl 5 rfl) 1 (by decide) (Nat.lt_of_lt_of_le (Nat.add_lt_add_left (by decide) k) hk) dL_law_633 dL_law_634 dL_law_636 dL_law_637 dL_law_638 dL_law_639 dL_law_642 dL_law_643 dL_law_646 ?_
  refine ll_x X (z := z) (As := [.int (qB (xs (k + 1)))]) (rest := []) (st1 := [.int a.1]) (K6_degreeOf D g x l α.1 α.2.1 z.1 (qB (xs (k + 1))) a ha) mw_X6_degreeOf ml_L_169 rfl ⟨(Nat.le_of_ble_eq_true rfl), (Nat.le_of_ble_eq_true rfl)⟩ hW rfl hl.1 rfl (Nat.le_of_ble_eq_true rfl) dL_law_647 hcs rfl (fun H locs hW => ?_)
  refine lv_aload_n hx hb dL_law_650 rfl (lv_at hl 2 rfl) ?_
  refine ll_lb X hs hW.2.2 (lv_at hl 0 rfl) (lv_at hl 5 rfl) 1 (by decide) (Nat.lt_of_lt_of_le (Nat.add_lt_add_left (by decide) k) hk) dL_law_651 dL_law_652 dL_law_654 dL_law_655 dL_law_656 dL_law_657 dL_law_660 dL_law_661 dL_law_664 ?_
  refine ll_m X (z := (a.2, z.2)) (As := [.int (qB (xs (k + 1)))]) (rest := [.int a.1]) (st1 := [.int b9.1, .int a.1]) (K7_degreeOf D g x l α.2.2.1 z.2.1 (qB (xs (k + 1))) b9 hb9) mw_X7_degreeOf ml_L_172 rfl ⟨(Nat.le_of_ble_eq_true rfl), (Nat.le_of_ble_eq_true rfl)⟩ hW rfl hl.1 rfl (Nat.le_of_ble_eq_true rfl) dL_law_665 ⟨Nat.le_trans (Nat.le_add_right cells 8) hcs.1, Nat.le_trans (Nat.le_add_right slots 48) hcs.2⟩ rfl (fun H locs hW => ?_)
  obtain ⟨hv, hq⟩ := o_y hq
  refine lv_icmp_eq (tgt := 2372) hx hb dL_law_668 (by decide) (fun _ => ?_) (fun w => absurd hv w)
  cases hq
  exact W.widen (Nat.le_add_right cells 8) (Nat.le_add_right slots 48) (kk _ _ _ hW hl)
theorem ll_c13 (X : Cx p s m args meth c RL cL_law 9 ret0 D g x A) (hs : Scr9 b L xs s A) (hl0 : l.stackTraces = false) (hW : LLP D g α A s z H locs) (hl : lv_has ls 9 (lvB b α k)) (hk : k + 6 ≤ L) (hcs : cells + 8 ≤ 601024 ∧ slots + 48 ≤ 7293034) (hq : q_13 (fun j => xs (k + j)) z = some z1)
    (kk : ∀ (H1 : Heap) (locs1 : List Loc) (ls1 : Array Slot), LLP D g α A s z1 H1 locs1 → lv_has ls1 9 (lvB b α k) → W p l e room_1 s m args below meth c H1 locs1 (cells + 8) (slots + 48) Q (F0 m 2372 ls1 [])) : W p l e room_1 s m args below meth c H locs cells slots Q (F0 m 673 ls []) := by
  obtain ⟨hx, hb, -⟩ := id X
  obtain ⟨a, ha, hq⟩ := o_b hq
  obtain ⟨b9, hb9, hq⟩ := o_b hq
  refine lv_aload_n hx hb dL_law_673 rfl (lv_at hl 1 rfl) ?_
  refine ll_lb X hs hW.2.2 (lv_at hl 0 rfl) (lv_at hl 5 rfl) 1 (by decide) (Nat.lt_of_lt_of_le (Nat.add_lt_add_left (by decide) k) hk) dL_law_674 dL_law_675 dL_law_677 dL_law_678 dL_law_679 dL_law_680 dL_law_683 dL_law_684 dL_law_687 ?_
  refine ll_ld X hs hW.2.2 (lv_at hl 0 rfl) (lv_at hl 5 rfl) 2 (by decide) (Nat.lt_of_lt_of_le (Nat.add_lt_add_left (by decide) k) hk) dL_law_688 dL_law_689 dL_law_691 dL_law_692 dL_law_693 ?_
  refine lv_aload_n hx hb dL_law_694 rfl (lv_at hl 3 rfl) ?_
  refine ll_h X (z := z) (As := [.ref (α.1 0), .int (qB (xs (k + 1))), .int (xs (k + 2)), .ref α.2.2.2.1]) (H_coefficient D g x l hl0 α.1 α.2.1 α.2.2.2.1 z.1 (qB (xs (k + 1))) (xs (k + 2)) z.2.2.1 a ha) mh_coefficient ml_L_173 ⟨(Nat.le_of_ble_eq_true rfl), (Nat.le_of_ble_eq_true rfl)⟩ (Nat.le_of_ble_eq_true rfl) hW rfl hl.1 rfl dL_law_695 hcs (fun H locs hW => ?_)
  refine lv_istore (lv' := (6, .int a.1) :: lvB b α k) hx hb dL_law_698 hl (by decide) rfl (fun ls hl => ?_)
  refine lv_aload_n hx hb dL_law_700 rfl (lv_at hl 3 rfl) ?_
  refine ll_lb X hs hW.2.2 (lv_at hl 1 rfl) (lv_at hl 6 rfl) 1 (by decide) (Nat.lt_of_lt_of_le (Nat.add_lt_add_left (by decide) k) hk) dL_law_701 dL_law_702 dL_law_704 dL_law_705 dL_law_706 dL_law_707 dL_law_710 dL_law_711 dL_law_714 ?_
  refine ll_ld X hs hW.2.2 (lv_at hl 1 rfl) (lv_at hl 6 rfl) 2 (by decide) (Nat.lt_of_lt_of_le (Nat.add_lt_add_left (by decide) k) hk) dL_law_715 dL_law_716 dL_law_718 dL_law_719 dL_law_720 ?_
  refine ll_m X (z := (a.2.1, z.2.1, a.2.2, z.2.2.2)) (As := [.int (qB (xs (k + 1))), .int (xs (k + 2))]) (rest := []) (st1 := [.long b9.1]) (K7_coefficient D g x l α.2.2.1 z.2.1 (qB (xs (k + 1))) (xs (k + 2)) b9 hb9) mw_X7_coefficient ml_L_176 rfl ⟨(Nat.le_of_ble_eq_true rfl), (Nat.le_of_ble_eq_true rfl)⟩ hW rfl hl.1 rfl (Nat.le_of_ble_eq_true rfl) dL_law_721 hcs rfl (fun H locs hW => ?_)
  refine lv_lstore (lv' := (7, .long b9.1) :: (6, .int a.1) :: lvB b α k) hx hb dL_law_724 hl (by decide) rfl (fun ls hl => ?_)
  exact ll_tJ X (z := (a.2.1, b9.2, a.2.2, z.2.2.2)) hW hl hcs hq (by decide) dL_law_726 dL_law_727 dL_law_730 dL_law_732 dL_law_737 dL_law_739 dL_law_742 dL_law_743 dL_law_744 dL_law_745 dL_law_747 dL_law_748 dL_law_753 (fun H locs hW => kk _ _ _ hW (lv_sub hl [2, 3, 4, 5, 6, 7] rfl))
theorem ll_c14 (X : Cx p s m args meth c RL cL_law 9 ret0 D g x A) (hs : Scr9 b L xs s A) (hl0 : l.stackTraces = false) (hW : LLP D g α A s z H locs) (hl : lv_has ls 9 (lvB b α k)) (hk : k + 6 ≤ L) (hcs : cells + 8 ≤ 601024 ∧ slots + 48 ≤ 7293034) (hq : q_14 (fun j => xs (k + j)) z = some z1)
    (kk : ∀ (H1 : Heap) (locs1 : List Loc) (ls1 : Array Slot), LLP D g α A s z1 H1 locs1 → lv_has ls1 9 (lvB b α k) → W p l e room_1 s m args below meth c H1 locs1 (cells + 8) (slots + 48) Q (F0 m 2372 ls1 [])) : W p l e room_1 s m args below meth c H locs cells slots Q (F0 m 756 ls []) := by
  obtain ⟨hx, hb, -⟩ := id X
  obtain ⟨a, ha, hq⟩ := o_b hq
  obtain ⟨b9, hb9, hq⟩ := o_b hq
  refine lv_aload_n hx hb dL_law_756 rfl (lv_at hl 1 rfl) ?_
  refine ll_ld X hs hW.2.2 (lv_at hl 0 rfl) (lv_at hl 5 rfl) 1 (by decide) (Nat.lt_of_lt_of_le (Nat.add_lt_add_left (by decide) k) hk) dL_law_757 dL_law_758 dL_law_760 dL_law_761 dL_law_762 ?_
  refine lv_aload_n hx hb dL_law_763 rfl (lv_at hl 3 rfl) ?_
  refine ll_h X (z := z) (As := [.ref (α.1 0), .int (xs (k + 1)), .ref α.2.2.2.1]) (H_kindAt D g x l hl0 α.1 α.2.1 α.2.2.2.1 z.1 (xs (k + 1)) z.2.2.1 a ha) mh_kindAt ml_L_177 ⟨(Nat.le_of_ble_eq_true rfl), (Nat.le_of_ble_eq_true rfl)⟩ (Nat.le_of_ble_eq_true rfl) hW rfl hl.1 rfl dL_law_764 hcs (fun H locs hW => ?_)
  refine lv_istore (lv' := (6, .int a.1) :: lvB b α k) hx hb dL_law_767 hl (by decide) rfl (fun ls hl => ?_)
  refine lv_aload_n hx hb dL_law_769 rfl (lv_at hl 3 rfl) ?_
  refine ll_ld X hs hW.2.2 (lv_at hl 1 rfl) (lv_at hl 6 rfl) 1 (by decide) (Nat.lt_of_lt_of_le (Nat.add_lt_add_left (by decide) k) hk) dL_law_770 dL_law_771 dL_law_773 dL_law_774 dL_law_775 ?_
  refine ll_m X (z := (a.2.1, z.2.1, a.2.2, z.2.2.2)) (As := [.int (xs (k + 1))]) (rest := []) (st1 := [.int b9.1]) (K7_kindAt D g x l α.2.2.1 z.2.1 (xs (k + 1)) b9 hb9) mw_X7_kindAt ml_L_179 rfl ⟨(Nat.le_of_ble_eq_true rfl), (Nat.le_of_ble_eq_true rfl)⟩ hW rfl hl.1 rfl (Nat.le_of_ble_eq_true rfl) dL_law_776 hcs rfl (fun H locs hW => ?_)
  refine lv_istore (lv' := (7, .int b9.1) :: (6, .int a.1) :: lvB b α k) hx hb dL_law_779 hl (by decide) rfl (fun ls hl => ?_)
  exact ll_tI X (z := (a.2.1, b9.2, a.2.2, z.2.2.2)) hW hl hcs hq (by decide) dL_law_781 dL_law_782 dL_law_785 dL_law_787 dL_law_792 dL_law_794 dL_law_797 dL_law_798 dL_law_799 dL_law_800 dL_law_802 dL_law_803 dL_law_804 dL_law_809 (fun H locs hW => kk _ _ _ hW (lv_sub hl [2, 3, 4, 5, 6, 7] rfl))
end LAWK
