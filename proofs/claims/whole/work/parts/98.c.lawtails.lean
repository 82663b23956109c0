/-! ===== the ends of the cases with a wrapper ===== -/
theorem lg_cmp_self {x y : Int64} (h : x = y) : lg_cmp x y = 0 := by
  subst h
  unfold lg_cmp
  rw [if_neg (by simp), if_pos rfl]
section LAWT
variable {p : Program} {l : Launch} {e : Env} {s : State} {m : MethodId} {args : Array Value} {below : List Frame} {meth : Method} {c : Code} {H : Heap} {locs : List Loc} {cells slots : Nat} {Q : State → Prop}
variable {D : va_G} {g : Nat → ClassId} {x : Xd} {A : Nat → Prop} {ret0 : Option FieldType} {α : Adr9} {z z1 : SL} {pc : Nat} {ls : Array Slot} {k1 : Int32}
theorem ll_t0 (X : Cx p s m args meth c RL cL_law 9 ret0 D g x A) (hW : LLP D g α A s z H locs) (hls : ls.size = 9) (h2 : ls[2]? = some (.val (.ref (α.2.2.1 0)))) (h6 : ls[6]? = some (.val (.int k1))) (hcs : cells ≤ 601024 ∧ slots ≤ 7293034) {G : Prop} [Decidable G]
    (hq : ((s7_thrown z.2.1).bind fun t => if t.1 = k1 then if k1 = 0 then if G then some (z.1, t.2, z.2.2) else none else some (z.1, t.2, z.2.2) else none) = some z1)
    {o1 o2 : Int} {t1 : Nat} (h13 : ((pc + 13 : Nat) : Int) + o1 = (t1 : Int)) (hg : (t1 : Int) + o2 = ((2372 : Nat) : Int))
    (d0 : decode cL_law pc = .ok (.aload_n 2, 1)) (d1 : decode cL_law (pc + 1) = .ok (.invokevirtual 126, 3)) (d4 : decode cL_law (pc + 4) = .ok (.iload 6, 2)) (d6 : decode cL_law (pc + 6) = .ok (.if_icmp .eq 5, 3)) (d11 : decode cL_law (pc + 11) = .ok (.iload 6, 2)) (d13 : decode cL_law (pc + 13) = .ok (.ifCond .ne o1, 3)) (dg : decode cL_law t1 = .ok (.goto o2, 3))
    (kk : ∀ (H1 : Heap) (locs1 : List Loc), LLP D g α A s z1 H1 locs1 → W p l e room_1 s m args below meth c H1 locs1 cells slots Q (F0 m 2372 ls []))
    (k0 : G → z1.2.2 = z.2.2 → ∀ (H1 : Heap) (locs1 : List Loc), LLP D g α A s z1 H1 locs1 → W p l e room_1 s m args below meth c H1 locs1 cells slots Q (F0 m (pc + 16) ls [])) : W p l e room_1 s m args below meth c H locs cells slots Q (F0 m pc ls []) := by
  obtain ⟨hx, hb, -⟩ := id X
  obtain ⟨t, ht, hq⟩ := o_b hq
  obtain ⟨hv, hq⟩ := o_y hq
  refine lv_aload_n hx hb d0 rfl h2 ?_
  refine ll_m X (z := z) (As := []) (rest := []) (st1 := [.int t.1]) (K7_thrown D g x l α.2.2.1 z.2.1 t ht) mw_X7_thrown ml_L_126 rfl ⟨(Nat.le_of_ble_eq_true rfl), (Nat.le_of_ble_eq_true rfl)⟩ hW rfl hls rfl (Nat.le_of_ble_eq_true rfl) d1 hcs rfl (fun H locs hW => ?_)
  refine lv_iload hx hb d4 h6 ?_
  refine lv_icmp_eq (tgt := pc + 11) hx hb d6 (by omega) (fun _ => ?_) (fun w => absurd hv w)
  refine lv_iload hx hb d11 h6 ?_
  refine lv_if_ne (tgt := t1) hx hb d13 h13 (fun w => ?_) (fun w => ?_)
  · have hq := o_f w hq
    refine lv_goto (tgt := 2372) hx hb dg hg ?_
    cases hq
    exact kk _ _ hW
  · have hq := o_t w hq
    obtain ⟨hG, hq⟩ := o_y hq
    cases hq
    exact k0 hG rfl _ _ hW
theorem ll_tI (X : Cx p s m args meth c RL cL_law 9 ret0 D g x A) (hW : LLP D g α A s z H locs) {b k : Nat} {v : Int32} (hl : lv_has ls 9 ((7, .int v) :: (6, .int k1) :: lvB b α k)) (hcs : cells ≤ 601024 ∧ slots ≤ 7293034)
    (hq : ((s7_thrown z.2.1).bind fun t => if t.1 = k1 then if k1 = 0 then if z.2.2.1 0 = Int32.toInt64 v then some (z.1, t.2, z.2.2) else none else some (z.1, t.2, z.2.2) else none) = some z1)
    {o2 : Int} (hg : ((pc + 28 : Nat) : Int) + o2 = ((2372 : Nat) : Int))
    (d0 : decode cL_law pc = .ok (.aload_n 2, 1)) (d1 : decode cL_law (pc + 1) = .ok (.invokevirtual 126, 3)) (d4 : decode cL_law (pc + 4) = .ok (.iload 6, 2)) (d6 : decode cL_law (pc + 6) = .ok (.if_icmp .eq 5, 3)) (d11 : decode cL_law (pc + 11) = .ok (.iload 6, 2)) (d13 : decode cL_law (pc + 13) = .ok (.ifCond .ne 15, 3)) (d16 : decode cL_law (pc + 16) = .ok (.aload_n 3, 1)) (d17 : decode cL_law (pc + 17) = .ok (.iconst 0, 1)) (d18 : decode cL_law (pc + 18) = .ok (.laload, 1)) (d19 : decode cL_law (pc + 19) = .ok (.iload 7, 2)) (d21 : decode cL_law (pc + 21) = .ok (.i2l, 1)) (d22 : decode cL_law (pc + 22) = .ok (.lcmp, 1)) (d23 : decode cL_law (pc + 23) = .ok (.ifCond .eq 5, 3)) (dg : decode cL_law (pc + 28) = .ok (.goto o2, 3))
    (kk : ∀ (H1 : Heap) (locs1 : List Loc), LLP D g α A s z1 H1 locs1 → W p l e room_1 s m args below meth c H1 locs1 cells slots Q (F0 m 2372 ls [])) : W p l e room_1 s m args below meth c H locs cells slots Q (F0 m pc ls []) := by
  obtain ⟨hx, hb, -⟩ := id X
  refine ll_t0 X hW hl.1 (lv_at hl 4 rfl) (lv_at hl 1 rfl) hcs hq (t1 := pc + 28) (by omega) hg d0 d1 d4 d6 d11 d13 dg kk (fun hG hz H locs hW => ?_)
  refine ll_out X hW (lv_at hl 5 rfl) d16 d17 d18 ?_
  rw [hz]
  refine lv_iload hx hb d19 (lv_at hl 0 rfl) ?_
  refine lv_i2l (v := Int32.toInt64 v) hx hb d21 rfl ?_
  refine W.lcmp hx hb d22 ?_
  refine lv_if_eq (tgt := pc + 28) hx hb d23 (by omega) (fun _ => ?_) (fun w => absurd (lg_cmp_self hG) w)
  refine lv_goto (tgt := 2372) hx hb dg hg ?_
  exact kk _ _ hW
theorem ll_tJ (X : Cx p s m args meth c RL cL_law 9 ret0 D g x A) (hW : LLP D g α A s z H locs) {b k : Nat} {v : Int64} (hl : lv_has ls 9 ((7, .long v) :: (6, .int k1) :: lvB b α k)) (hcs : cells ≤ 601024 ∧ slots ≤ 7293034)
    (hq : ((s7_thrown z.2.1).bind fun t => if t.1 = k1 then if k1 = 0 then if z.2.2.1 0 = v then some (z.1, t.2, z.2.2) else none else some (z.1, t.2, z.2.2) else none) = some z1)
    {o2 : Int} (hg : ((pc + 27 : Nat) : Int) + o2 = ((2372 : Nat) : Int))
    (d0 : decode cL_law pc = .ok (.aload_n 2, 1)) (d1 : decode cL_law (pc + 1) = .ok (.invokevirtual 126, 3)) (d4 : decode cL_law (pc + 4) = .ok (.iload 6, 2)) (d6 : decode cL_law (pc + 6) = .ok (.if_icmp .eq 5, 3)) (d11 : decode cL_law (pc + 11) = .ok (.iload 6, 2)) (d13 : decode cL_law (pc + 13) = .ok (.ifCond .ne 14, 3)) (d16 : decode cL_law (pc + 16) = .ok (.aload_n 3, 1)) (d17 : decode cL_law (pc + 17) = .ok (.iconst 0, 1)) (d18 : decode cL_law (pc + 18) = .ok (.laload, 1)) (d19 : decode cL_law (pc + 19) = .ok (.lload 7, 2)) (d21 : decode cL_law (pc + 21) = .ok (.lcmp, 1)) (d22 : decode cL_law (pc + 22) = .ok (.ifCond .eq 5, 3)) (dg : decode cL_law (pc + 27) = .ok (.goto o2, 3))
    (kk : ∀ (H1 : Heap) (locs1 : List Loc), LLP D g α A s z1 H1 locs1 → W p l e room_1 s m args below meth c H1 locs1 cells slots Q (F0 m 2372 ls [])) : W p l e room_1 s m args below meth c H locs cells slots Q (F0 m pc ls []) := by
  obtain ⟨hx, hb, -⟩ := id X
  refine ll_t0 X hW hl.1 (lv_at hl 4 rfl) (lv_at hl 1 rfl) hcs hq (t1 := pc + 27) (by omega) hg d0 d1 d4 d6 d11 d13 dg kk (fun hG hz H locs hW => ?_)
  refine ll_out X hW (lv_at hl 5 rfl) d16 d17 d18 ?_
  rw [hz]
  refine lv_lload hx hb d19 (lv_at hl 0 rfl) ?_
  refine W.lcmp hx hb d21 ?_
  refine lv_if_eq (tgt := pc + 27) hx hb d22 (by omega) (fun _ => ?_) (fun w => absurd (lg_cmp_self hG) w)
  refine lv_goto (tgt := 2372) hx hb dg hg ?_
  exact kk _ _ hW
end LAWT
