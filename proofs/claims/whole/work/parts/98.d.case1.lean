/-! the law's cases 0 to 2 -/
section LAWK
variable {p : Program} {l : Launch} {e : Env} {s : State} {m : MethodId} {args : Array Value} {below : List Frame} {meth : Method} {c : Code} {H : Heap} {locs : List Loc} {cells slots : Nat} {Q : State → Prop}
variable {D : va_G} {g : Nat → ClassId} {x : Xd} {A : Nat → Prop} {ret0 : Option FieldType} {b L k : Nat} {xs : Nat → Int32} {α : Adr9} {z z1 : SL} {ls : Array Slot}
theorem ll_c0 (X : Cx p s m args meth c RL cL_law 9 ret0 D g x A) (hs : Scr9 b L xs s A) (hW : LLP D g α A s z H locs) (hl : lv_has ls 9 (lvB b α k)) (hk : k + 6 ≤ L) (hcs : cells + 8 ≤ 601024 ∧ slots + 48 ≤ 7293034) (hq : q_0 (fun j => xs (k + j)) z = some z1)
    (kk : ∀ (H1 : Heap) (locs1 : List Loc) (ls1 : Array Slot), LLP D g α A s z1 H1 locs1 → lv_has ls1 9 (lvB b α k) → W p l e room_1 s m args below meth c H1 locs1 (cells + 8) (slots + 48) Q (F0 m 2372 ls1 [])) : W p l e room_1 s m args below meth c H locs cells slots Q (F0 m 232 ls []) := by
  obtain ⟨hx, hb, -⟩ := id X
  obtain ⟨a, ha, hq⟩ := o_b hq
  obtain ⟨b9, hb9, hq⟩ := o_b hq
  refine lv_aload_n hx hb dL_law_232 rfl (lv_at hl 1 rfl) ?_
  refine ll_ld X hs hW.2.2 (lv_at hl 0 rfl) (lv_at hl 5 rfl) 1 (by decide) (Nat.lt_of_lt_of_le (Nat.add_lt_add_left (by decide) k) hk) dL_law_233 dL_law_234 dL_law_236 dL_law_237 dL_law_238 ?_
  refine ll_ld X hs hW.2.2 (lv_at hl 0 rfl) (lv_at hl 5 rfl) 2 (by decide) (Nat.lt_of_lt_of_le (Nat.add_lt_add_left (by decide) k) hk) dL_law_239 dL_law_240 dL_law_242 dL_law_243 dL_law_244 ?_
  refine ll_ld X hs hW.2.2 (lv_at hl 0 rfl) (lv_at hl 5 rfl) 3 (by decide) (Nat.lt_of_lt_of_le (Nat.add_lt_add_left (by decide) k) hk) dL_law_245 dL_law_246 dL_law_248 dL_law_249 dL_law_250 ?_
  refine ll_ld X hs hW.2.2 (lv_at hl 0 rfl) (lv_at hl 5 rfl) 4 (by decide) (Nat.lt_of_lt_of_le (Nat.add_lt_add_left (by decide) k) hk) dL_law_251 dL_law_252 dL_law_254 dL_law_255 dL_law_256 ?_
  refine ll_ld X hs hW.2.2 (lv_at hl 0 rfl) (lv_at hl 5 rfl) 5 (by decide) (Nat.lt_of_lt_of_le (Nat.add_lt_add_left (by decide) k) hk) dL_law_257 dL_law_258 dL_law_260 dL_law_261 dL_law_262 ?_
  refine ll_x X (z := z) (As := [.int (xs (k + 1)), .int (xs (k + 2)), .int (xs (k + 3)), .int (xs (k + 4)), .int (xs (k + 5))]) (rest := []) (st1 := [.int a.1]) (K6_feed D g x l α.1 α.2.1 z.1 (xs (k + 1)) (xs (k + 2)) (xs (k + 3)) (xs (k + 4)) (xs (k + 5)) a ha) mw_X6_feed ml_L_115 rfl ⟨(Nat.le_of_ble_eq_true rfl), (Nat.le_of_ble_eq_true rfl)⟩ hW rfl hl.1 rfl (Nat.le_of_ble_eq_true rfl) dL_law_263 hcs rfl (fun H locs hW => ?_)
  refine lv_aload_n hx hb dL_law_266 rfl (lv_at hl 2 rfl) ?_
  refine ll_ld X hs hW.2.2 (lv_at hl 0 rfl) (lv_at hl 5 rfl) 1 (by decide) (Nat.lt_of_lt_of_le (Nat.add_lt_add_left (by decide) k) hk) dL_law_267 dL_law_268 dL_law_270 dL_law_271 dL_law_272 ?_
  refine ll_ld X hs hW.2.2 (lv_at hl 0 rfl) (lv_at hl 5 rfl) 2 (by decide) (Nat.lt_of_lt_of_le (Nat.add_lt_add_left (by decide) k) hk) dL_law_273 dL_law_274 dL_law_276 dL_law_277 dL_law_278 ?_
  refine ll_ld X hs hW.2.2 (lv_at hl 0 rfl) (lv_at hl 5 rfl) 3 (by decide) (Nat.lt_of_lt_of_le (Nat.add_lt_add_left (by decide) k) hk) dL_law_279 dL_law_280 dL_law_282 dL_law_283 dL_law_284 ?_
  refine ll_ld X hs hW.2.2 (lv_at hl 0 rfl) (lv_at hl 5 rfl) 4 (by decide) (Nat.lt_of_lt_of_le (Nat.add_lt_add_left (by decide) k) hk) dL_law_285 dL_law_286 dL_law_288 dL_law_289 dL_law_290 ?_
  refine ll_ld X hs hW.2.2 (lv_at hl 0 rfl) (lv_at hl 5 rfl) 5 (by decide) (Nat.lt_of_lt_of_le (Nat.add_lt_add_left (by decide) k) hk) dL_law_291 dL_law_292 dL_law_294 dL_law_295 dL_law_296 ?_
  refine ll_m X (z := (a.2, z.2)) (As := [.int (xs (k + 1)), .int (xs (k + 2)), .int (xs (k + 3)), .int (xs (k + 4)), .int (xs (k + 5))]) (rest := [.int a.1]) (st1 := [.int b9.1, .int a.1]) (K7_feed D g x l α.2.2.1 z.2.1 (xs (k + 1)) (xs (k + 2)) (xs (k + 3)) (xs (k + 4)) (xs (k + 5)) b9 hb9) mw_X7_feed ml_L_119 rfl ⟨(Nat.le_of_ble_eq_true rfl), (Nat.le_of_ble_eq_true rfl)⟩ hW rfl hl.1 rfl (Nat.le_of_ble_eq_true rfl) dL_law_297 ⟨Nat.le_trans (Nat.le_add_right cells 8) hcs.1, Nat.le_trans (Nat.le_add_right slots 48) hcs.2⟩ rfl (fun H locs hW => ?_)
  obtain ⟨hv, hq⟩ := o_y hq
  refine lv_icmp_eq (tgt := 2372) hx hb dL_law_300 (by decide) (fun _ => ?_) (fun w => absurd hv w)
  cases hq
  exact W.widen (Nat.le_add_right cells 8) (Nat.le_add_right slots 48) (kk _ _ _ hW hl)
theorem ll_c1 (X : Cx p s m args meth c RL cL_law 9 ret0 D g x A) (hs : Scr9 b L xs s A) (hl0 : l.stackTraces = false) (hW : LLP D g α A s z H locs) (hl : lv_has ls 9 (lvB b α k)) (hk : k + 6 ≤ L) (hcs : cells + 8 ≤ 601024 ∧ slots + 48 ≤ 7293034) (hq : q_1 (fun j => xs (k + j)) z = some z1)
    (kk : ∀ (H1 : Heap) (locs1 : List Loc) (ls1 : Array Slot), LLP D g α A s z1 H1 locs1 → lv_has ls1 9 (lvB b α k) → W p l e room_1 s m args below meth c H1 locs1 (cells + 8) (slots + 48) Q (F0 m 2372 ls1 [])) : W p l e room_1 s m args below meth c H locs cells slots Q (F0 m 305 ls []) := by
  obtain ⟨hx, hb, -⟩ := id X
  obtain ⟨a, ha, hq⟩ := o_b hq
  obtain ⟨b9, hb9, hq⟩ := o_b hq
  refine lv_aload_n hx hb dL_law_305 rfl (lv_at hl 1 rfl) ?_
  refine ll_ld X hs hW.2.2 (lv_at hl 0 rfl) (lv_at hl 5 rfl) 1 (by decide) (Nat.lt_of_lt_of_le (Nat.add_lt_add_left (by decide) k) hk) dL_law_306 dL_law_307 dL_law_309 dL_law_310 dL_law_311 ?_
  refine lv_aload_n hx hb dL_law_312 rfl (lv_at hl 3 rfl) ?_
  refine ll_h X (z := z) (As := [.ref (α.1 0), .int (xs (k + 1)), .ref α.2.2.2.1]) (H_load D g x l hl0 α.1 α.2.1 α.2.2.2.1 z.1 (xs (k + 1)) z.2.2.1 a ha) mh_load ml_L_120 ⟨(Nat.le_of_ble_eq_true rfl), (Nat.le_of_ble_eq_true rfl)⟩ (Nat.le_of_ble_eq_true rfl) hW rfl hl.1 rfl dL_law_313 hcs (fun H locs hW => ?_)
  refine lv_istore (lv' := (6, .int a.1) :: lvB b α k) hx hb dL_law_316 hl (by decide) rfl (fun ls hl => ?_)
  refine lv_aload_n hx hb dL_law_318 rfl (lv_at hl 3 rfl) ?_
  refine ll_ld X hs hW.2.2 (lv_at hl 1 rfl) (lv_at hl 6 rfl) 1 (by decide) (Nat.lt_of_lt_of_le (Nat.add_lt_add_left (by decide) k) hk) dL_law_319 dL_law_320 dL_law_322 dL_law_323 dL_law_324 ?_
  refine ll_m X (z := (a.2.1, z.2.1, a.2.2, z.2.2.2)) (As := [.int (xs (k + 1))]) (rest := []) (st1 := [.int b9.1]) (K7_load D g x l α.2.2.1 z.2.1 (xs (k + 1)) b9 hb9) mw_X7_load ml_L_125 rfl ⟨(Nat.le_of_ble_eq_true rfl), (Nat.le_of_ble_eq_true rfl)⟩ hW rfl hl.1 rfl (Nat.le_of_ble_eq_true rfl) dL_law_325 hcs rfl (fun H locs hW => ?_)
  refine lv_istore (lv' := (7, .int b9.1) :: (6, .int a.1) :: lvB b α k) hx hb dL_law_328 hl (by decide) rfl (fun ls hl => ?_)
  exact ll_tI X (z := (a.2.1, b9.2, a.2.2, z.2.2.2)) hW hl hcs hq (by decide) dL_law_330 dL_law_331 dL_law_334 dL_law_336 dL_law_341 dL_law_343 dL_law_346 dL_law_347 dL_law_348 dL_law_349 dL_law_351 dL_law_352 dL_law_353 dL_law_358 (fun H locs hW => kk _ _ _ hW (lv_sub hl [2, 3, 4, 5, 6, 7] rfl))
theorem ll_c2 (X : Cx p s m args meth c RL cL_law 9 ret0 D g x A) (hs : Scr9 b L xs s A) (hW : LLP D g α A s z H locs) (hl : lv_has ls 9 (lvB b α k)) (hk : k + 6 ≤ L) (hcs : cells + 8 ≤ 601024 ∧ slots + 48 ≤ 7293034) (hq : q_2 (fun j => xs (k + j)) z = some z1)
    (kk : ∀ (H1 : Heap) (locs1 : List Loc) (ls1 : Array Slot), LLP D g α A s z1 H1 locs1 → lv_has ls1 9 (lvB b α k) → W p l e room_1 s m args below meth c H1 locs1 (cells + 8) (slots + 48) Q (F0 m 2372 ls1 [])) : W p l e room_1 s m args below meth c H locs cells slots Q (F0 m 361 ls []) := by
  obtain ⟨hx, hb, -⟩ := id X
  obtain ⟨a, ha, hq⟩ := o_b hq
  obtain ⟨b9, hb9, hq⟩ := o_b hq
  refine lv_aload_n hx hb dL_law_361 rfl (lv_at hl 1 rfl) ?_
  refine ll_x X (z := z) (As := []) (rest := []) (st1 := [.int a.1]) (K6_errorKind D g x l α.1 α.2.1 z.1  a ha) mw_X6_errorKind ml_L_129 rfl ⟨(Nat.le_of_ble_eq_true rfl), (Nat.le_of_ble_eq_true rfl)⟩ hW rfl hl.1 rfl (Nat.le_of_ble_eq_true rfl) dL_law_362 hcs rfl (fun H locs hW => ?_)
  refine lv_aload_n hx hb dL_law_365 rfl (lv_at hl 2 rfl) ?_
  refine ll_m X (z := (a.2, z.2)) (As := []) (rest := [.int a.1]) (st1 := [.int b9.1, .int a.1]) (K7_errorKind D g x l α.2.2.1 z.2.1  b9 hb9) mw_X7_errorKind ml_L_132 rfl ⟨(Nat.le_of_ble_eq_true rfl), (Nat.le_of_ble_eq_true rfl)⟩ hW rfl hl.1 rfl (Nat.le_of_ble_eq_true rfl) dL_law_366 ⟨Nat.le_trans (Nat.le_add_right cells 8) hcs.1, Nat.le_trans (Nat.le_add_right slots 48) hcs.2⟩ rfl (fun H locs hW => ?_)
  obtain ⟨hv, hq⟩ := o_y hq
  refine lv_icmp_eq (tgt := 2372) hx hb dL_law_369 (by decide) (fun _ => ?_) (fun w => absurd hv w)
  cases hq
  exact W.widen (Nat.le_add_right cells 8) (Nat.le_add_right slots 48) (kk _ _ _ hW hl)
end LAWK
