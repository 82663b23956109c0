/-! ===== the law's loop: its world, its loads, its calls ===== -/
abbrev Adr9 : Type := (Nat → Nat) × (Nat → Nat → Nat) × (Nat → Nat) × Nat × Nat
def wL (g : Nat → ClassId) (α : Adr9) (z : SL) : va_W := w6 g α.1 α.2.1 z.1 ++ (w7 g α.2.2.1 z.2.1 ++ [cOut g α.2.2.2.1 z.2.2.1, cOutD g α.2.2.2.2 z.2.2.2])
theorem wL_adr (g : Nat → ClassId) (α : Adr9) (z z' : SL) : (wL g α z').map (fun q => q.1) = (wL g α z).map (fun q => q.1) := by
  unfold wL
  rw [List.map_append, List.map_append, List.map_append, List.map_append, w6_adr g α.1 α.2.1 z.1 z'.1, w7_adr g α.2.2.1 z.2.1 z'.2.1]
  rfl
def LLP (D : va_G) (g : Nat → ClassId) (α : Adr9) (A : Nat → Prop) (s : State) (z : SL) (H : Heap) (locs : List Loc) : Prop := va_P D vwCl (wL g α z) H ∧ va_D A (wL g α z) ∧ va_S A s.heap H locs
def Scr9 (b L : Nat) (xs : Nat → Int32) (s : State) (A : Nat → Prop) : Prop := va_X b L xs s s.heap ∧ b < s.heap.size ∧ ¬ A b ∧ L ≤ 3072
abbrev lvB (b : Nat) (α : Adr9) (k : Nat) : List (Nat × Value) := [(0, .ref b), (1, .ref (α.1 0)), (2, .ref (α.2.2.1 0)), (3, .ref α.2.2.2.1), (4, .ref α.2.2.2.2), (5, .int (nI k))]
theorem o_y {α : Type} {c : Prop} [Decidable c] {t : Option α} {r : α} (h : (if c then t else none) = some r) : c ∧ t = some r := by
  by_cases hc : c
  · rw [if_pos hc] at h; exact ⟨hc, h⟩
  · rw [if_neg hc] at h; cases h
section LAWC
variable {p : Program} {l : Launch} {e : Env} {s : State} {m : MethodId} {args : Array Value} {below : List Frame} {meth : Method} {c : Code} {H : Heap} {locs : List Loc} {cells slots : Nat} {Q : State → Prop}
variable {D : va_G} {g : Nat → ClassId} {x : Xd} {A : Nat → Prop} {ret0 : Option FieldType} {b L k : Nat} {xs : Nat → Int32} {α : Adr9} {z : SL} {pc : Nat} {ls : Array Slot} {rest : List Value}
theorem ll_ld (X : Cx p s m args meth c RL cL_law 9 ret0 D g x A) (hs : Scr9 b L xs s A) (hS : va_S A s.heap H locs) (h0 : ls[0]? = some (.val (.ref b))) (h5 : ls[5]? = some (.val (.int (nI k)))) (j : Nat) {n : Int} (hn : Int32.ofInt n = nI j) (hk : k + j < L) (d0 : decode cL_law pc = .ok (.aload_n 0, 1)) (d1 : decode cL_law (pc + 1) = .ok (.iload 5, 2)) (d3 : decode cL_law (pc + 3) = .ok (.iconst n, 1)) (d4 : decode cL_law (pc + 4) = .ok (.iadd, 1)) (d5 : decode cL_law (pc + 5) = .ok (.iaload, 1))
    (kk : W p l e room_1 s m args below meth c H locs cells slots Q (F0 m (pc + 6) ls (.int (xs (k + j)) :: rest))) : W p l e room_1 s m args below meth c H locs cells slots Q (F0 m pc ls rest) := by
  obtain ⟨hx, hb, -⟩ := id X
  obtain ⟨s1, s2, s3, s4⟩ := hs
  refine lv_aload_n hx hb d0 rfl h0 ?_
  refine lv_iload hx hb d1 h5 ?_
  refine lv_iconst (v := nI j) hx hb d3 hn ?_
  refine lv_iadd hx hb d4 ?_
  rw [nI_add]
  refine va_sld hx hb s1 s2 s3 hS (vp_in_nI hk (by omega)) d5 ?_
  rw [nI_clamp (by omega)]
  exact kk
theorem ll_lb (X : Cx p s m args meth c RL cL_law 9 ret0 D g x A) (hs : Scr9 b L xs s A) (hS : va_S A s.heap H locs) (h0 : ls[0]? = some (.val (.ref b))) (h5 : ls[5]? = some (.val (.int (nI k)))) (j : Nat) {n : Int} (hn : Int32.ofInt n = nI j) (hk : k + j < L) (d0 : decode cL_law pc = .ok (.aload_n 0, 1)) (d1 : decode cL_law (pc + 1) = .ok (.iload 5, 2)) (d3 : decode cL_law (pc + 3) = .ok (.iconst n, 1)) (d4 : decode cL_law (pc + 4) = .ok (.iadd, 1)) (d5 : decode cL_law (pc + 5) = .ok (.iaload, 1)) (d6 : decode cL_law (pc + 6) = .ok (.ifCond .eq 7, 3)) (d9 : decode cL_law (pc + 9) = .ok (.iconst 1, 1)) (d10 : decode cL_law (pc + 10) = .ok (.goto 4, 3)) (d13 : decode cL_law (pc + 13) = .ok (.iconst 0, 1))
    (kk : W p l e room_1 s m args below meth c H locs cells slots Q (F0 m (pc + 14) ls (.int (qB (xs (k + j))) :: rest))) : W p l e room_1 s m args below meth c H locs cells slots Q (F0 m pc ls rest) := by
  obtain ⟨hx, hb, -⟩ := id X
  refine ll_ld X hs hS h0 h5 j hn hk d0 d1 d3 d4 d5 ?_
  refine lv_if_eq (tgt := pc + 13) hx hb d6 (by omega) (fun t => ?_) (fun t => ?_)
  · refine lv_iconst (v := 0) hx hb d13 (by decide) ?_
    rw [show qB (xs (k + j)) = 0 from if_pos t] at kk
    exact kk
  · refine lv_iconst (v := 1) hx hb d9 (by decide) ?_
    refine lv_goto (tgt := pc + 14) hx hb d10 (by omega) ?_
    rw [show qB (xs (k + j)) = 1 from if_neg t] at kk
    exact kk
theorem ll_x (X : Cx p s m args meth c RL cL_law 9 ret0 D g x A) {y : MethodName} {cy : ByteArray} {nLy fry loy n idx : Nat} {rety : Option FieldType} {As st0 st1 : List Value} {r : Option Value} {σ' : S6}
    (hC : Cn D g x l y cy nLy rety fry loy (.ref (α.1 0) :: As) (w6 g α.1 α.2.1 z.1) (w6 g α.1 α.2.1 σ') r) (hM : MwV y cy nLy rety n) (hlink : Cond.methodLink RL idx y ∈ wG) (hy : y.cls = RX6) (hR : fry + 1 ≤ 2048 ∧ 8 + (nLy + 11) + loy ≤ 84000) (hW : LLP D g α A s z H locs) (hn : As.length = n) (hls : ls.size = 9) (hst : st0 = As.reverse ++ .ref (α.1 0) :: rest) (hrm : (rest.map fun v => v.category).sum ≤ 8) (hdg : decode cL_law pc = .ok (.invokevirtual idx, 3)) (hcs : cells + 8 ≤ 601024 ∧ slots + 48 ≤ 7293034) (hst1 : r.toList ++ rest = st1)
    (kk : ∀ (H1 : Heap) (locs1 : List Loc), LLP D g α A s (σ', z.2) H1 locs1 → W p l e room_1 s m args below meth c H1 locs1 cells slots Q (F0 m (pc + 3) ls st1)) : W p l e room_1 s m args below meth c H locs cells slots Q (F0 m pc ls st0) := by
  obtain ⟨hP, hD, hS⟩ := hW
  have hci : vwCl[6]? = some (y.cls, TX6, 7) := by rw [hy]; rfl
  exact mcallA X (hC.ext _ (mrg_ones _ _ (w7 g α.2.2.1 z.2.1 ++ [cOut g α.2.2.2.1 z.2.2.1, cOutD g α.2.2.2.2 z.2.2.2]) (w6_adr g α.1 α.2.1 z.1 σ'))) hM hlink hR hP hD hS (wL_adr g α z (σ', z.2)) 0 rfl hci hn hls hst hrm hdg ⟨Nat.le_trans (Nat.add_le_add_left (Nat.zero_le 8) cells) hcs.1, Nat.le_trans (Nat.add_le_add_left (Nat.zero_le 48) slots) hcs.2⟩ hst1 (fun H1 locs1 hP hD hS => kk H1 locs1 ⟨hP, hD, hS⟩)
theorem ll_m (X : Cx p s m args meth c RL cL_law 9 ret0 D g x A) {y : MethodName} {cy : ByteArray} {nLy fry loy n idx : Nat} {rety : Option FieldType} {As st0 st1 : List Value} {r : Option Value} {τ' : S7}
    (hC : Cn D g x l y cy nLy rety fry loy (.ref (α.2.2.1 0) :: As) (w7 g α.2.2.1 z.2.1) (w7 g α.2.2.1 τ') r) (hM : MwV y cy nLy rety n) (hlink : Cond.methodLink RL idx y ∈ wG) (hy : y.cls = RX7) (hR : fry + 1 ≤ 2048 ∧ 8 + (nLy + 11) + loy ≤ 84000) (hW : LLP D g α A s z H locs) (hn : As.length = n) (hls : ls.size = 9) (hst : st0 = As.reverse ++ .ref (α.2.2.1 0) :: rest) (hrm : (rest.map fun v => v.category).sum ≤ 8) (hdg : decode cL_law pc = .ok (.invokevirtual idx, 3)) (hcs : cells ≤ 601024 ∧ slots ≤ 7293034) (hst1 : r.toList ++ rest = st1)
    (kk : ∀ (H1 : Heap) (locs1 : List Loc), LLP D g α A s (z.1, τ', z.2.2) H1 locs1 → W p l e room_1 s m args below meth c H1 locs1 cells slots Q (F0 m (pc + 3) ls st1)) : W p l e room_1 s m args below meth c H locs cells slots Q (F0 m pc ls st0) := by
  obtain ⟨hP, hD, hS⟩ := hW
  have hci : vwCl[7]? = some (y.cls, TX7, 25) := by rw [hy]; rfl
  exact mcallA X (hC.ext _ (mrg_left (w6 g α.1 α.2.1 z.1) (mrg_ones _ _ [cOut g α.2.2.2.1 z.2.2.1, cOutD g α.2.2.2.2 z.2.2.2] (w7_adr g α.2.2.1 z.2.1 τ')))) hM hlink hR hP hD hS (wL_adr g α z (z.1, τ', z.2.2)) 71 rfl hci hn hls hst hrm hdg hcs hst1 (fun H1 locs1 hP hD hS => kk H1 locs1 ⟨hP, hD, hS⟩)
theorem ll_h (X : Cx p s m args meth c RL cL_law 9 ret0 D g x A) {y : MethodName} {cy : ByteArray} {nLy fry loy mcy n idx : Nat} {hh : List (Nat × Nat × Nat × Nat)} {As st0 : List Value} {v : Int32} {σ' : S6} {o' : Nat → Int64}
    (hC : CnM D g x l y cy nLy hh fry loy mcy As (w6 g α.1 α.2.1 z.1 ++ [cOut g α.2.2.2.1 z.2.2.1]) (w6 g α.1 α.2.1 σ' ++ [cOut g α.2.2.2.1 o']) (some (.int v))) (hM : MwH y cy nLy hh n) (hlink : Cond.methodLink RL idx y ∈ wG) (hR : fry + 1 ≤ 2048 ∧ 8 + (nLy + 11) + loy ≤ 84000) (hmc : mcy ≤ 8) (hW : LLP D g α A s z H locs) (hn : As.length = n) (hls : ls.size = 9) (hst : st0 = As.reverse ++ []) (hdg : decode cL_law pc = .ok (.invokestatic idx, 3)) (hcs : cells + 8 ≤ 601024 ∧ slots + 48 ≤ 7293034)
    (kk : ∀ (H1 : Heap) (locs1 : List Loc), LLP D g α A s (σ', z.2.1, o', z.2.2.2) H1 locs1 → W p l e room_1 s m args below meth c H1 locs1 (cells + 8) (slots + 48) Q (F0 m (pc + 3) ls [.int v])) : W p l e room_1 s m args below meth c H locs cells slots Q (F0 m pc ls st0) := by
  obtain ⟨hP, hD, hS⟩ := hW
  have hm : mrgB [true, false] [cOut g α.2.2.2.1 z.2.2.1, cOutD g α.2.2.2.2 z.2.2.2] [cOut g α.2.2.2.1 z.2.2.1] [cOut g α.2.2.2.1 o'] [cOut g α.2.2.2.1 o', cOutD g α.2.2.2.2 z.2.2.2] := ⟨rfl, rfl, rfl, rfl, trivial⟩
  exact hcallA X (hC.ext _ (mrg_both _ _ (w6_adr g α.1 α.2.1 z.1 σ') (mrg_left (w7 g α.2.2.1 z.2.1) hm))) hM hlink hR hP hD hS (wL_adr g α z (σ', z.2.1, o', z.2.2.2)) hn hls hst (Nat.zero_le _) hdg ⟨Nat.le_trans (Nat.add_le_add_left hmc cells) hcs.1, Nat.le_trans (Nat.add_le_add_left (Nat.mul_le_mul_left 6 hmc) slots) hcs.2⟩ rfl (fun H1 locs1 hP hD hS => W.widen (k := cells + 8) (n := slots + 48) (Nat.add_le_add_left hmc cells) (Nat.add_le_add_left (Nat.mul_le_mul_left 6 hmc) slots) (kk H1 locs1 ⟨hP, hD, hS⟩))
theorem ll_hd (X : Cx p s m args meth c RL cL_law 9 ret0 D g x A) {y : MethodName} {cy : ByteArray} {nLy fry loy mcy n idx : Nat} {hh : List (Nat × Nat × Nat × Nat)} {As st0 : List Value} {v : Int32} {σ' : S6} {o' : Nat → UInt64}
    (hC : CnM D g x l y cy nLy hh fry loy mcy As (w6 g α.1 α.2.1 z.1 ++ [cOutD g α.2.2.2.2 z.2.2.2]) (w6 g α.1 α.2.1 σ' ++ [cOutD g α.2.2.2.2 o']) (some (.int v))) (hM : MwH y cy nLy hh n) (hlink : Cond.methodLink RL idx y ∈ wG) (hR : fry + 1 ≤ 2048 ∧ 8 + (nLy + 11) + loy ≤ 84000) (hmc : mcy ≤ 8) (hW : LLP D g α A s z H locs) (hn : As.length = n) (hls : ls.size = 9) (hst : st0 = As.reverse ++ []) (hdg : decode cL_law pc = .ok (.invokestatic idx, 3)) (hcs : cells + 8 ≤ 601024 ∧ slots + 48 ≤ 7293034)
    (kk : ∀ (H1 : Heap) (locs1 : List Loc), LLP D g α A s (σ', z.2.1, z.2.2.1, o') H1 locs1 → W p l e room_1 s m args below meth c H1 locs1 (cells + 8) (slots + 48) Q (F0 m (pc + 3) ls [.int v])) : W p l e room_1 s m args below meth c H locs cells slots Q (F0 m pc ls st0) := by
  obtain ⟨hP, hD, hS⟩ := hW
  have hm : mrgB [false, true] [cOut g α.2.2.2.1 z.2.2.1, cOutD g α.2.2.2.2 z.2.2.2] [cOutD g α.2.2.2.2 z.2.2.2] [cOutD g α.2.2.2.2 o'] [cOut g α.2.2.2.1 z.2.2.1, cOutD g α.2.2.2.2 o'] := ⟨rfl, rfl, rfl, rfl, trivial⟩
  exact hcallA X (hC.ext _ (mrg_both _ _ (w6_adr g α.1 α.2.1 z.1 σ') (mrg_left (w7 g α.2.2.1 z.2.1) hm))) hM hlink hR hP hD hS (wL_adr g α z (σ', z.2.1, z.2.2.1, o')) hn hls hst (Nat.zero_le _) hdg ⟨Nat.le_trans (Nat.add_le_add_left hmc cells) hcs.1, Nat.le_trans (Nat.add_le_add_left (Nat.mul_le_mul_left 6 hmc) slots) hcs.2⟩ rfl (fun H1 locs1 hP hD hS => W.widen (k := cells + 8) (n := slots + 48) (Nat.add_le_add_left hmc cells) (Nat.add_le_add_left (Nat.mul_le_mul_left 6 hmc) slots) (kk H1 locs1 ⟨hP, hD, hS⟩))
theorem ll_out (X : Cx p s m args meth c RL cL_law 9 ret0 D g x A) (hW : LLP D g α A s z H locs) (h3 : ls[3]? = some (.val (.ref α.2.2.2.1))) (d0 : decode cL_law pc = .ok (.aload_n 3, 1)) (d1 : decode cL_law (pc + 1) = .ok (.iconst 0, 1)) (d2 : decode cL_law (pc + 2) = .ok (.laload, 1))
    (kk : W p l e room_1 s m args below meth c H locs cells slots Q (F0 m (pc + 3) ls (.long (z.2.2.1 0) :: rest))) : W p l e room_1 s m args below meth c H locs cells slots Q (F0 m pc ls rest) := by
  obtain ⟨hx, hb, -⟩ := id X
  refine lv_aload_n hx hb d0 rfl h3 ?_
  refine lv_iconst (v := 0) hx hb d1 (by decide) ?_
  refine mlld X hW.1 81 (n := 1) (f := z.2.2.1) rfl (by decide) d2 ?_
  exact kk
theorem ll_outD (X : Cx p s m args meth c RL cL_law 9 ret0 D g x A) (hW : LLP D g α A s z H locs) (h4 : ls[4]? = some (.val (.ref α.2.2.2.2))) (d0 : decode cL_law pc = .ok (.aload 4, 2)) (d2 : decode cL_law (pc + 2) = .ok (.iconst 0, 1)) (d3 : decode cL_law (pc + 3) = .ok (.daload, 1))
    (kk : W p l e room_1 s m args below meth c H locs cells slots Q (F0 m (pc + 4) ls (.double (z.2.2.2 0) :: rest))) : W p l e room_1 s m args below meth c H locs cells slots Q (F0 m pc ls rest) := by
  obtain ⟨hx, hb, -, -, -, -, -, hK, -⟩ := id X
  refine lv_aload hx hb d0 h4 ?_
  refine lv_iconst (v := 0) hx hb d2 (by decide) ?_
  refine va_dald hx hb hK hW.1 82 3 (n := 1) (f := z.2.2.2) rfl rfl (show ¬ ((0 : Int32) < 0 ∨ 1 ≤ Int32.toNatClampNeg 0) from by decide) d3 ?_
  exact kk
end LAWC
