/-! ===== the law's loop ===== -/
theorem ll_z3 (n : Nat) : nI n = z3 (n : Int) := by
  apply Int32.toInt_inj.1
  show (Int32.ofNat n).toInt = (Int32.ofInt (n : Int)).toInt
  rw [Int32.toInt_ofNat', Int32.toInt_ofInt]
theorem ll_gt {k L : Nat} (hL : L ≤ 3072) (hk : k ≤ 3072) : (nI L - 6 < nI k) ↔ L < k + 6 := by
  have l6 : (6 : Int32) = z3 6 := rfl
  rw [ll_z3 L, ll_z3 k, l6, z3s, z3lt (by omega) (by omega) (by omega) (by omega)]
  omega
section LAWL
variable {p : Program} {l : Launch} {e : Env} {s : State} {m : MethodId} {args : Array Value} {below : List Frame} {meth : Method} {c : Code} {Q : State → Prop}
variable {D : va_G} {g : Nat → ClassId} {x : Xd} {A : Nat → Prop} {ret0 : Option FieldType} {b L : Nat} {xs : Nat → Int32} {α : Adr9}
theorem ll_loop (X : Cx p s m args meth c RL cL_law 9 ret0 D g x A) (hs : Scr9 b L xs s A) (hl0 : l.stackTraces = false) {z1 : SL}
    (kk : ∀ (H1 : Heap) (locs1 : List Loc) (ls1 : Array Slot) (cells1 slots1 : Nat), LLP D g α A s z1 H1 locs1 → cells1 ≤ 601024 → slots1 ≤ 7293034 → W p l e room_1 s m args below meth c H1 locs1 cells1 slots1 Q (F0 m 2378 ls1 [])) :
    ∀ (n k : Nat) (z : SL) (H : Heap) (locs : List Loc) (cells slots : Nat) (ls : Array Slot), q_run xs n k z = some z1 → k + 6 * n ≤ L → L < k + 6 * n + 6 → cells + 8 * n ≤ 601024 → slots + 48 * n ≤ 7293034 → LLP D g α A s z H locs → lv_has ls 9 (lvB b α k) → W p l e room_1 s m args below meth c H locs cells slots Q (F0 m 28 ls []) := by
  obtain ⟨hx, hb, -⟩ := id X
  obtain ⟨s1, s2, s3, s4⟩ := id hs
  intro n
  induction n with
  | zero =>
    intro k z H locs cells slots ls hq h1 h2 h3 h4 hW hl
    cases hq
    refine lv_iload hx hb dL_law_28 (lv_at hl 5 rfl) ?_
    refine lv_aload_n hx hb dL_law_30 rfl (lv_at hl 0 rfl) ?_
    refine va_slen hx hb s1 s2 s3 hW.2.2 dL_law_31 ?_
    refine lv_bipush (v := 6) hx hb dL_law_32 (by decide) ?_
    refine lv_isub hx hb dL_law_34 ?_
    refine lv_icmp_gt (tgt := 2378) hx hb dL_law_35 (by decide) (fun _ => ?_) (fun w => absurd ((ll_gt s4 (by omega)).2 (by omega)) w)
    exact kk _ _ _ _ _ hW (by omega) (by omega)
  | succ n ih =>
    intro k z H locs cells slots ls hq h1 h2 h3 h4 hW hl
    obtain ⟨z2, hq1, hq2⟩ := o_b (show (q_step (fun j => xs (k + j)) z).bind (fun z2 => q_run xs n (k + 6) z2) = some z1 from hq)
    refine lv_iload hx hb dL_law_28 (lv_at hl 5 rfl) ?_
    refine lv_aload_n hx hb dL_law_30 rfl (lv_at hl 0 rfl) ?_
    refine va_slen hx hb s1 s2 s3 hW.2.2 dL_law_31 ?_
    refine lv_bipush (v := 6) hx hb dL_law_32 (by decide) ?_
    refine lv_isub hx hb dL_law_34 ?_
    refine lv_icmp_gt (tgt := 2378) hx hb dL_law_35 (by decide) (fun w => absurd ((ll_gt s4 (by omega)).1 w) (by omega)) (fun _ => ?_)
    refine lv_aload_n hx hb dL_law_38 rfl (lv_at hl 0 rfl) ?_
    refine lv_iload hx hb dL_law_39 (lv_at hl 5 rfl) ?_
    refine va_sld hx hb s1 s2 s3 hW.2.2 (vp_in_nI (by omega) (by omega)) dL_law_41 ?_
    rw [nI_clamp (by omega)]
    refine lv_bipush (v := 63) hx hb dL_law_42 (by decide) ?_
    refine lv_iand hx hb dL_law_44 ?_
    refine ll_sw X hs hl0 hW hl (by omega) ⟨by omega, by omega⟩ hq1 (fun H locs ls hW hl => ?_)
    refine lv_iinc (k := 5) (lv' := (5, .int (nI (k + 6))) :: [(0, .ref b), (1, .ref (α.1 0)), (2, .ref (α.2.2.1 0)), (3, .ref α.2.2.2.1), (4, .ref α.2.2.2.2)]) hx hb dL_law_2372 hl rfl (nI_add k 6) (by decide) rfl (fun ls hl => ?_)
    refine lv_goto (tgt := 28) hx hb dL_law_2375 (by decide) ?_
    exact ih (k + 6) z2 H locs (cells + 8) (slots + 48) ls hq2 (by omega) (by omega) (by omega) (by omega) hW (lv_sub hl [1, 2, 3, 4, 5, 0] rfl)
end LAWL
