/-! StringBuilder: growing. -/
section GPUT
variable {p : Program} {l : Launch} {e : Env} {R : Room} {s : State} {m : MethodId} {args : Array Value} {below : List Frame} {meth : Method} {c : Code} {H : Heap} {locs : List Loc} {cells slots : Nat} {Q : State → Prop}
variable {D : va_G} {g : Nat → ClassId} {x : Xd} {A : Nat → Prop} {own : String} {cc : ByteArray} {nL : Nat} {ret0 : Option FieldType} {ws ws1 : va_W} {pc : Nat} {ls : Array Slot} {rest : List Value}
/-- a reference laid into a field that isn't final -/
theorem gputR (X : Cx p s m args meth c own cc nL ret0 D g x A) {idx ci k : Nat} (hF : Fl own idx ci k false) (hP : va_P D vwCl ws H) (hD : va_D A ws) (hS : va_S A s.heap H locs) (q0 : Nat) {a : Nat} {fs : List Value} (he : ws[q0]? = some (a, .inr (ci, fs))) {q : Nat} {v0 : Value} (hv : fs[k]? = some v0) (ht : ∃ z, vwCl[ci]? = some z ∧ ∃ ty, parseFieldDescriptor (z.2.1 k).2.2.1 = some ty ∧ narrow ty (.ref q) = .ref q ∧ Jvm.fits ty (.ref q) = true) (hdg : decode cc pc = .ok (.putfield idx, 3)) (hw : ws.set q0 (a, .inr (ci, fs.set k (.ref q))) = ws1)
    (kk : ∀ (H1 : Heap) (locs1 : List Loc), va_P D vwCl ws1 H1 → va_D A ws1 → va_S A s.heap H1 locs1 → W p l e R s m args below meth c H1 locs1 cells slots Q (F0 m (pc + 3) ls rest)) : W p l e R s m args below meth c H locs cells slots Q (F0 m pc ls (.ref q :: .ref a :: rest)) := by
  obtain ⟨hx, hb, hml, -, -, hown, hts, hK, hA, hE⟩ := X
  subst hw
  have hlen : k < fs.length := (List.getElem?_eq_some_iff.mp hv).1
  obtain ⟨C, T, N, ty0, hci, hk, hin, hl, hty, hnm, hfin⟩ := hF
  obtain ⟨z, hz1, ty, hd, hn, hf⟩ := ht
  cases hci.symm.trans hz1
  rcases hl with hl | ⟨host, hl⟩
  · exact va_put hx hb hts hin ty0 hty hnm hown hK hP hD hS q0 he hci k hk (hts _ hl) (fun _ h => h) hfin hd hn hf hlen hdg kk
  · exact va_putN hx hb hts hin ty0 hty hnm hown hK hP hD hS q0 he hci k hk (va_Nw.use rfl (hE.1 _ hl)) (fun _ h => h) hfin hd hn hf hlen hdg kk
/-- a number laid into a field of bytes -/
theorem gputB (X : Cx p s m args meth c own cc nL ret0 D g x A) {idx ci k : Nat} (hF : Fl own idx ci k false) (hP : va_P D vwCl ws H) (hD : va_D A ws) (hS : va_S A s.heap H locs) (q0 : Nat) {a : Nat} {fs : List Value} (he : ws[q0]? = some (a, .inr (ci, fs))) {v : Int32} {v0 : Value} (hv : fs[k]? = some v0) (ht : ∃ z, vwCl[ci]? = some z ∧ ∃ ty, parseFieldDescriptor (z.2.1 k).2.2.1 = some ty ∧ narrow ty (.int v) = .int v ∧ Jvm.fits ty (.int v) = true) (hdg : decode cc pc = .ok (.putfield idx, 3)) (hw : ws.set q0 (a, .inr (ci, fs.set k (.int v))) = ws1)
    (kk : ∀ (H1 : Heap) (locs1 : List Loc), va_P D vwCl ws1 H1 → va_D A ws1 → va_S A s.heap H1 locs1 → W p l e R s m args below meth c H1 locs1 cells slots Q (F0 m (pc + 3) ls rest)) : W p l e R s m args below meth c H locs cells slots Q (F0 m pc ls (.int v :: .ref a :: rest)) := by
  obtain ⟨hx, hb, hml, -, -, hown, hts, hK, hA, hE⟩ := X
  subst hw
  have hlen : k < fs.length := (List.getElem?_eq_some_iff.mp hv).1
  obtain ⟨C, T, N, ty0, hci, hk, hin, hl, hty, hnm, hfin⟩ := hF
  obtain ⟨z, hz1, ty, hd, hn, hf⟩ := ht
  cases hci.symm.trans hz1
  rcases hl with hl | ⟨host, hl⟩
  · exact va_put hx hb hts hin ty0 hty hnm hown hK hP hD hS q0 he hci k hk (hts _ hl) (fun _ h => h) hfin hd hn hf hlen hdg kk
  · exact va_putN hx hb hts hin ty0 hty hnm hown hK hP hD hS q0 he hci k hk (va_Nw.use rfl (hE.1 _ hl)) (fun _ h => h) hfin hd hn hf hlen hdg kk
theorem gminC (X : Cx p s m args meth c own cc nL ret0 D g x A) {idx : Nat} (hlk : Cond.methodLink own idx Lib.Math.min.name ∈ wG) (hls : ls.size = nL) (hf : 1 ≤ R.frames) (hlo : (rest.map fun v => v.category).sum + 13 ≤ R.locals) (hcs : cells ≤ R.cells ∧ slots ≤ R.slots) {v w : Int32} (hdg : decode cc pc = .ok (.invokestatic idx, 3))
    (kk : W p l e R s m args below meth c H locs cells slots Q (F0 m (pc + 3) ls (.int (mmini_v v w) :: rest))) : W p l e R s m args below meth c H locs cells slots Q (F0 m pc ls (.int w :: .int v :: rest)) :=
  va_mmin X.1 X.2.1 (X.2.2.1.trans hls.symm) X.2.2.2.2.2.1 (X.2.2.2.2.2.2.1 _ hlk) (X.2.2.2.2.2.2.1 _ mth_min.1) (X.2.2.2.2.2.2.1 _ mth_ini) (X.2.2.2.2.2.2.1 _ mth_min.2) hf hlo hcs.1 hcs.2 hdg kk
/-- a call of an upper class's method that makes nothing -/
theorem mcallU (X : Cx p s m args meth c own cc nL ret0 D g x A) {C : String} {y : MethodName} {cy : ByteArray} {nLy fry loy n idx : Nat} {rety : Option FieldType} {b : Nat} {As st0 st1 : List Value} {wc wc1 : va_W} {r : Option Value}
    (hC : Cn D g x l y cy nLy rety fry loy (.ref b :: As) wc wc1 r) (hM : MwU C y cy nLy rety n) (hlink : Cond.methodLink own idx y ∈ wG) (hR : fry + 1 ≤ R.frames ∧ 8 + (nLy + 11) + loy ≤ R.locals)
    (hP : va_P D vwCl ws H) (hD : va_D A ws) (hS : va_S A s.heap H locs) (is : List Nat) (hnd : va_nd is = true) (hc : is.map (fun i => ws[i]?) = wc.map some) (hadr : wc1.map (fun q => q.1) = wc.map (fun q => q.1)) (q0 : Nat) {ci N : Nat} {T : u_T} {fs : List Value} (hq0 : ws[q0]? = some (b, .inr (ci, fs))) (hci : vwCl[ci]? = some (C, T, N))
    (hn : As.length = n) (hls : ls.size = nL) (hst : st0 = As.reverse ++ .ref b :: rest) (hrm : (rest.map fun v => v.category).sum ≤ 8) (hdg : decode cc pc = .ok (.invokevirtual idx, 3)) (hcs : cells + 0 ≤ R.cells ∧ slots + 0 ≤ R.slots)
    (hw : setL ws is wc1 = ws1) (hst1 : r.toList ++ rest = st1)
    (kk : ∀ (H1 : Heap) (locs1 : List Loc), va_P D vwCl ws1 H1 → va_D A ws1 → va_S A s.heap H1 locs1 → W p l e R s m args below meth c H1 locs1 cells slots Q (F0 m (pc + 3) ls st1)) : W p l e R s m args below meth c H locs cells slots Q (F0 m pc ls st0) := by
  obtain ⟨hx, hb, hml, -, -, hown, hts, hK, hA, hE⟩ := X
  have hPc := hP.sub (ws' := wc) is (by
    have : is.filterMap (fun i => ws[i]?) = (is.map (fun i => ws[i]?)).filterMap id := by rw [List.filterMap_map]; rfl
    rw [this, hc, List.filterMap_map]
    exact List.filterMap_some)
  have hDc := hD.sub (ws' := wc) is hnd hc
  have hEc : Ext x (va_A wc H.size) s H := (hE.kept (fun a h1 h2 => hS.2.1 a h1 h2)).narrow (va_free hD hS hA is hc)
  refine mbehind (a := args) (va_runU (As := As) (rest := rest) (n := n) (C := C) (owner := y.cls) (x := y) ⟨hx, hb, hml, hown, hts⟩ (hC H.size) (va_cwU n hts (mwU_good hM hlink) rfl rfl rfl rfl hM.2.2.2.2.2 hR) ⟨fun a U g9 mk q => ?_, va_recv hK hP hci hq0, fun U hU hW => ⟨rfl, by rw [hU], by rw [hU]; exact hPc, va_K.moved hW.alike hK, hDc.weaken (fun _ _ _ _ => trivial), by rw [hU]; exact hEc.warm hW⟩⟩ rfl hn hls hst (lv_room hrm) hdg hcs) hA hP hD hS is hc hadr hw hst1 kk
  obtain ⟨q1, q2, q3, q4, q5, q6⟩ := q
  exact ⟨q1, q2, q3, va_K.moved (u := U) (U := U.calling g9 mk a) (Vm.Alike.refl U.vm) q4, q5, Ext.same (s := U) (U := U.calling g9 mk a) rfl q6⟩
/-- a call on a text constant, over some cells -/
theorem mcallEw (X : Cx p s m args meth c own cc nL ret0 D g x A) {y : MethodName} {cy : ByteArray} {nLy fry loy n idx : Nat} {rety : Option FieldType} {i : Nat} {As st0 st1 : List Value} {wc wc1 : va_W} {r : Option Value}
    (hC : Cn D g x l y cy nLy rety fry loy (.ref (x.1 i) :: As) wc wc1 r) (hi : i < 13) (hy : y.cls = "java/lang/String") (hM : MwV y cy nLy rety n) (hlink : Cond.methodLink own idx y ∈ wG) (hR : fry + 1 ≤ R.frames ∧ 8 + (nLy + 11) + loy ≤ R.locals)
    (hP : va_P D vwCl ws H) (hD : va_D A ws) (hS : va_S A s.heap H locs) (is : List Nat) (hnd : va_nd is = true) (hc : is.map (fun i => ws[i]?) = wc.map some) (hadr : wc1.map (fun q => q.1) = wc.map (fun q => q.1))
    (hn : As.length = n) (hls : ls.size = nL) (hst : st0 = As.reverse ++ .ref (x.1 i) :: rest) (hrm : (rest.map fun v => v.category).sum ≤ 8) (hdg : decode cc pc = .ok (.invokevirtual idx, 3)) (hcs : cells + 0 ≤ R.cells ∧ slots + 0 ≤ R.slots)
    (hw : setL ws is wc1 = ws1) (hst1 : r.toList ++ rest = st1)
    (kk : ∀ (H1 : Heap) (locs1 : List Loc), va_P D vwCl ws1 H1 → va_D A ws1 → va_S A s.heap H1 locs1 → W p l e R s m args below meth c H1 locs1 cells slots Q (F0 m (pc + 3) ls st1)) : W p l e R s m args below meth c H locs cells slots Q (F0 m pc ls st0) := by
  obtain ⟨hx, hb, hml, -, -, hown, hts, hK, hA, hE⟩ := X
  have hPc := hP.sub (ws' := wc) is (by
    have : is.filterMap (fun i => ws[i]?) = (is.map (fun i => ws[i]?)).filterMap id := by rw [List.filterMap_map]; rfl
    rw [this, hc, List.filterMap_map]
    exact List.filterMap_some)
  have hDc := hD.sub (ws' := wc) is hnd hc
  have hEc : Ext x (va_A wc H.size) s H := (hE.kept (fun a h1 h2 => hS.2.1 a h1 h2)).narrow (va_free hD hS hA is hc)
  have hrc := vk_recv (i := 0) (hE.2.2.2.1 i hi) (by decide) hS
  rw [← hy] at hrc
  refine mbehind (a := args) (va_runV (As := As) (rest := rest) (n := n) (C := y.cls) ⟨hx, hb, hml, hown, hts⟩ (hC H.size) (cwV n hts (mwV_good hM hlink) rfl rfl rfl ⟨rfl, hM.2.2.2.2⟩ hR) ⟨fun a U g9 mk q => ?_, hrc, fun U hU hW => ⟨rfl, by rw [hU], by rw [hU]; exact hPc, va_K.moved hW.alike hK, hDc.weaken (fun _ _ _ _ => trivial), by rw [hU]; exact hEc.warm hW⟩⟩ rfl hn hls hst (lv_room hrm) hdg hcs) hA hP hD hS is hc hadr hw hst1 kk
  obtain ⟨q1, q2, q3, q4, q5, q6⟩ := q
  exact ⟨q1, q2, q3, va_K.moved (u := U) (U := U.calling g9 mk a) (Vm.Alike.refl U.vm) q4, q5, Ext.same (s := U) (U := U.calling g9 mk a) rfl q6⟩
end GPUT
theorem mmaxi_n {a b : Nat} (ha : a < 65536) (hb : b < 65536) : mmaxi_v (nI a) (nI b) = nI (max a b) := by
  unfold mmaxi_v
  by_cases h : a < b
  · rw [if_pos (nI_lt h (by omega)), Nat.max_eq_right (by omega)]
  · rw [if_neg (nI_nlt (by omega) (by omega)), Nat.max_eq_left (by omega)]
theorem mmini_n {a b : Nat} (ha : a < 65536) (hb : b < 65536) : mmini_v (nI a) (nI b) = nI (min a b) := by
  unfold mmini_v
  by_cases h : b < a
  · rw [if_pos (nI_lt h (by omega)), Nat.min_eq_right (by omega)]
  · rw [if_neg (nI_nlt (by omega) (by omega)), Nat.min_eq_left (by omega)]
theorem nI_small {n : Nat} (h : n < 65536) : ¬ (2147483639 : Int32) < nI n := by
  intro q
  have := Int32.lt_iff_toInt_lt.mp q
  rw [nI_toInt (by omega), show (2147483639 : Int32).toInt = 2147483639 by decide] at this
  omega
theorem nI_nmax {n : Nat} (h : n < 65536) : ¬ nI n = (2147483647 : Int32) := by
  intro q
  have := congrArg Int32.toInt q
  rw [nI_toInt (by omega), show (2147483647 : Int32).toInt = 2147483647 by decide] at this
  omega
section TXB
variable (D : va_G) (g : Nat → ClassId) (x : Xd) (l : Launch)
set_option maxHeartbeats 4000000 in
set_option maxRecDepth 100000 in
theorem kJ8_newLength (o a b : Nat) (ho : o < 4096) (ha : a < 4096) (hb4 : b < 4096) (h0 : 0 < o + max a b) : Cn D g x l yJ8_newLength_cabcc cJ8_newLength_cabcc 4 (some .int) 1 40 [.int (nI o), .int (nI a), .int (nI b)] [] [] (some (.int (nI (o + max a b)))) := by
  have hmx : max a b < 4096 := Nat.max_lt.mpr ⟨ha, hb4⟩
  refine CnI (by decide +kernel) (Nat.le_of_ble_eq_true rfl) (fun p e s m args below meth c A Q ls X hD hP hS fin hl => ?_)
  obtain ⟨hx, hb, hml, -, -, hown, hts, hK, hA, hE⟩ := id X
  have hl : lv_has ls 4 [(0, .int (nI o)), (1, .int (nI a)), (2, .int (nI b))] := hl
  refine lv_iload_n hx hb dJ8_newLength_cabcc_0 rfl (lv_at hl 0 rfl) ?_
  refine lv_iload_n hx hb dJ8_newLength_cabcc_1 rfl (lv_at hl 1 rfl) ?_
  refine lv_iload_n hx hb dJ8_newLength_cabcc_2 rfl (lv_at hl 2 rfl) ?_
  refine mmaxi X ml_J8_194 hl.1 (Nat.le_of_ble_eq_true rfl) (Nat.le_of_ble_eq_true rfl) dJ8_newLength_cabcc_3 ?_
  rw [mmaxi_n (by omega) (by omega)]
  refine lv_iadd hx hb dJ8_newLength_cabcc_6 ?_
  rw [nI_add]
  refine lv_istore_n (lv' := [(3, .int (nI (o + max a b))), (0, .int (nI o)), (1, .int (nI a)), (2, .int (nI b))]) hx hb dJ8_newLength_cabcc_7 rfl hl (by decide) rfl (fun ls hl => ?_)
  refine lv_iconst (v := nI 0) hx hb dJ8_newLength_cabcc_8 (by decide) ?_
  refine lv_iload_n hx hb dJ8_newLength_cabcc_9 rfl (lv_at hl 0 rfl) ?_
  refine lv_icmp_ge (tgt := 21) hx hb dJ8_newLength_cabcc_10 (by decide) (fun h => absurd h (nI_ge h0 (by omega))) (fun _ => ?_)
  refine lv_iload_n hx hb dJ8_newLength_cabcc_13 rfl (lv_at hl 0 rfl) ?_
  refine lv_ldc hx hb hown (hts _ kc_J8_200) dJ8_newLength_cabcc_14 ?_
  refine lv_icmp_gt (tgt := 21) hx hb dJ8_newLength_cabcc_16 (by decide) (fun h => absurd h (nI_small (by omega))) (fun _ => ?_)
  refine lv_iload_n hx hb dJ8_newLength_cabcc_19 rfl (lv_at hl 0 rfl) ?_
  exact fin _ _ _ _ rfl hP hS dJ8_newLength_cabcc_20
set_option maxHeartbeats 4000000 in
set_option maxRecDepth 100000 in
theorem kJ5_newCapacity (q r n cap : Nat) (f : Nat → Int32) (k : Nat) (hc : cap < k) (hk : k < 1024) : Cn D g x l yJ5_newCapacity_0f7a4 cJ5_newCapacity_0f7a4 6 (some .int) 2 80 [.ref q, .int (nI k)] (sbW g q r n cap f) (sbW g q r n cap f) (some (.int (nI (cap + max (k - cap) (cap + 2))))) := by
  have hmx : max (k - cap) (cap + 2) < 4096 := Nat.max_lt.mpr ⟨by omega, by omega⟩
  refine CnI (by decide +kernel) (Nat.le_of_ble_eq_true rfl) (fun p e s m args below meth c A Q ls X hD hP hS fin hl => ?_)
  obtain ⟨hx, hb, hml, -, -, hown, hts, hK, hA, hE⟩ := id X
  have hl : lv_has ls 6 [(0, .ref q), (1, .int (nI k))] := hl
  refine lv_aload_n hx hb dJ5_newCapacity_0f7a4_0 rfl (lv_at hl 0 rfl) ?_
  refine mget X fl_J5_15 hP 0 rfl rfl dJ5_newCapacity_0f7a4_1 ?_
  refine va_alen hx hb hK hP 1 3 rfl rfl (v := nI cap) rfl dJ5_newCapacity_0f7a4_4 ?_
  refine lv_istore_n (lv' := [(2, .int (nI cap)), (0, .ref q), (1, .int (nI k))]) hx hb dJ5_newCapacity_0f7a4_5 rfl hl (by decide) rfl (fun ls hl => ?_)
  refine lv_iload_n hx hb dJ5_newCapacity_0f7a4_6 rfl (lv_at hl 2 rfl) ?_
  refine lv_aload_n hx hb dJ5_newCapacity_0f7a4_7 rfl (lv_at hl 1 rfl) ?_
  refine mget X fl_J5_22 hP 0 rfl rfl dJ5_newCapacity_0f7a4_8 ?_
  refine lv_ishl hx hb dJ5_newCapacity_0f7a4_11 ?_
  rw [sb_shl0]
  refine lv_istore_n (lv' := [(3, .int (nI k)), (2, .int (nI cap)), (0, .ref q), (1, .int (nI k))]) hx hb dJ5_newCapacity_0f7a4_12 rfl hl (by decide) rfl (fun ls hl => ?_)
  refine lv_iload_n hx hb dJ5_newCapacity_0f7a4_13 rfl (lv_at hl 0 rfl) ?_
  refine lv_iload_n hx hb dJ5_newCapacity_0f7a4_14 rfl (lv_at hl 1 rfl) ?_
  refine lv_isub hx hb dJ5_newCapacity_0f7a4_15 ?_
  rw [pk_sub (by omega)]
  refine lv_istore (lv' := [(4, .int (nI (k - cap))), (3, .int (nI k)), (2, .int (nI cap)), (0, .ref q), (1, .int (nI k))]) hx hb dJ5_newCapacity_0f7a4_16 hl (by decide) rfl (fun ls hl => ?_)
  refine lv_iload_n hx hb dJ5_newCapacity_0f7a4_18 rfl (lv_at hl 2 rfl) ?_
  refine lv_iload hx hb dJ5_newCapacity_0f7a4_19 (lv_at hl 0 rfl) ?_
  refine lv_iload_n hx hb dJ5_newCapacity_0f7a4_21 rfl (lv_at hl 2 rfl) ?_
  refine lv_iconst (v := nI 2) hx hb dJ5_newCapacity_0f7a4_22 (by decide) ?_
  refine lv_aload_n hx hb dJ5_newCapacity_0f7a4_23 rfl (lv_at hl 3 rfl) ?_
  refine mget X fl_J5_22 hP 0 rfl rfl dJ5_newCapacity_0f7a4_24 ?_
  refine lv_ishl hx hb dJ5_newCapacity_0f7a4_27 ?_
  rw [sb_shl0]
  refine lv_iadd hx hb dJ5_newCapacity_0f7a4_28 ?_
  rw [nI_add]
  refine mcallS X (As := [.int (nI cap), .int (nI (k - cap)), .int (nI (cap + 2))]) (rest := []) (wc := []) (wc1 := []) (ws1 := sbW g q r n cap f) (st1 := [.int (nI (cap + max (k - cap) (cap + 2)))]) (kJ8_newLength D g x l cap (k - cap) (cap + 2) (by omega) (by omega) (by omega) (by omega)) mw_J8_newLength_cabcc ml_J5_114 ⟨(Nat.le_of_ble_eq_true rfl), (Nat.le_of_ble_eq_true rfl)⟩ hP hD hS [] rfl rfl rfl rfl hl.1 rfl (Nat.le_of_ble_eq_true rfl) dJ5_newCapacity_0f7a4_29 ⟨Nat.le_refl _, Nat.le_refl _⟩ rfl rfl (fun H locs hP hD hS => ?_)
  refine lv_istore (lv' := [(5, .int (nI (cap + max (k - cap) (cap + 2)))), (4, .int (nI (k - cap))), (3, .int (nI k)), (2, .int (nI cap)), (0, .ref q), (1, .int (nI k))]) hx hb dJ5_newCapacity_0f7a4_32 hl (by decide) rfl (fun ls hl => ?_)
  refine lv_iload hx hb dJ5_newCapacity_0f7a4_34 (lv_at hl 0 rfl) ?_
  refine lv_ldc hx hb hown (hts _ kc_J5_39) dJ5_newCapacity_0f7a4_36 ?_
  refine lv_icmp_ne (tgt := 51) hx hb dJ5_newCapacity_0f7a4_38 (by decide) (fun _ => ?_) (fun h => absurd h (nI_nmax (by omega)))
  refine lv_iload hx hb dJ5_newCapacity_0f7a4_51 (lv_at hl 0 rfl) ?_
  refine lv_aload_n hx hb dJ5_newCapacity_0f7a4_53 rfl (lv_at hl 4 rfl) ?_
  refine mget X fl_J5_22 hP 0 rfl rfl dJ5_newCapacity_0f7a4_54 ?_
  refine lv_ishr hx hb dJ5_newCapacity_0f7a4_57 ?_
  rw [sb_shr0]
  exact fin _ _ _ _ rfl hP hS dJ5_newCapacity_0f7a4_58
set_option maxHeartbeats 4000000 in
set_option maxRecDepth 100000 in
theorem kJ7_copyOf (r cap : Nat) (F : Nat → Int32) (hF : sb_Fit F) (k : Nat) (hc : cap < k) (hk : k < 1024) : CnG D g x l yJ7_copyOf_9075b cJ7_copyOf_9075b 3 (some (.array .byte)) 1 60 1 1024 [.ref r, .int (nI k)] [(r, .inl (g 3, cap, .inl F))] (fun v w => ∃ r1, v = some (.ref r1) ∧ w = [(r, .inl (g 3, cap, .inl F)), (r1, .inl (g 3, k, .inl (va_cpy F (fun _ => 0) 0 0 cap)))]) := by
  refine CnG.a (Or.inr ⟨_, rfl⟩) (by decide +kernel) (Nat.le_of_ble_eq_true rfl) (fun p e s m args below meth c A Q ls X hnm hD hP hS fin hl => ?_)
  obtain ⟨hx, hb, hml, -, -, hown, hts, hK, hA, hE⟩ := id X
  have hl : lv_has ls 3 [(0, .ref r), (1, .int (nI k))] := hl
  refine lv_iload_n hx hb dJ7_copyOf_9075b_0 rfl (lv_at hl 1 rfl) ?_
  refine lv_aload_n hx hb dJ7_copyOf_9075b_1 rfl (lv_at hl 0 rfl) ?_
  refine va_alen hx hb hK hP 0 3 rfl rfl (v := nI cap) rfl dJ7_copyOf_9075b_2 ?_
  refine lv_icmp_ne (tgt := 14) hx hb dJ7_copyOf_9075b_3 (by decide) (fun _ => ?_) (fun h => by
    have := congrArg Int32.toInt h
    rw [nI_toInt (by omega), nI_toInt (by omega)] at this
    omega)
  refine lv_iload_n hx hb dJ7_copyOf_9075b_14 rfl (lv_at hl 1 rfl) ?_
  refine cnewA X 3 rfl rfl (fun C h => by cases h) ac_3 hP hD hS (n := nI k) (N' := k) (a0 := (k, .inl (fun _ => 0))) (fun _ => rfl) (nI_pos (by omega)) (nI_clamp (by omega)) (by show k * 1 ≤ 536870912; omega) (Nat.le_of_ble_eq_true rfl) (by show 0 + k ≤ 1024; omega) dJ7_copyOf_9075b_15 (fun r1 H hP hD hS => ?_)
  have hP : va_P D vwCl [(r, .inl (g 3, cap, .inl F)), (r1, .inl (g 3, k, .inl (fun _ => 0)))] H := hP
  have hD : va_D A [(r, .inl (g 3, cap, .inl F)), (r1, .inl (g 3, k, .inl (fun _ => 0)))] := hD
  refine W.widen (k := 1) (n := 1024) (Nat.le_of_ble_eq_true rfl) (by omega) ?_
  refine lv_astore_n (lv' := [(2, .ref r1), (0, .ref r), (1, .int (nI k))]) hx hb dJ7_copyOf_9075b_17 rfl hl (by decide) rfl (fun ls hl => ?_)
  refine lv_aload_n hx hb dJ7_copyOf_9075b_18 rfl (lv_at hl 1 rfl) ?_
  refine lv_iconst (v := 0) hx hb dJ7_copyOf_9075b_19 (by decide) ?_
  refine lv_aload_n hx hb dJ7_copyOf_9075b_20 rfl (lv_at hl 0 rfl) ?_
  refine lv_iconst (v := 0) hx hb dJ7_copyOf_9075b_21 (by decide) ?_
  refine lv_aload_n hx hb dJ7_copyOf_9075b_22 rfl (lv_at hl 1 rfl) ?_
  refine va_alen hx hb hK hP 0 3 rfl rfl (v := nI cap) rfl dJ7_copyOf_9075b_23 ?_
  refine lv_iload_n hx hb dJ7_copyOf_9075b_24 rfl (lv_at hl 2 rfl) ?_
  refine gminC X ml_J7_304 hl.1 (Nat.le_of_ble_eq_true rfl) (Nat.le_of_ble_eq_true rfl) ⟨Nat.le_refl _, Nat.le_refl _⟩ dJ7_copyOf_9075b_25 ?_
  rw [mmini_n (by omega) (by omega), Nat.min_eq_left (by omega)]
  refine va_copyi hx hb (hml.trans hl.1.symm) hown (hts _ ml_J7_150) (hts _ ac_w.1) (hts _ ac_w.2.1) (hts _ ac_w.2.2) hK hP hD hS 0 1 3 3 (f := F) (g := fun _ => 0) rfl rfl rfl rfl (by decide) (by decide) (by decide) (nI_pos (by omega)) (by rw [sb_cl0, nI_clamp (by omega)]; exact Nat.le_of_eq (Nat.zero_add _)) (by rw [sb_cl0, nI_clamp (by omega)]; omega) (fun j hj => hF _) (Nat.le_of_ble_eq_true rfl) (Nat.le_of_ble_eq_true rfl) dJ7_copyOf_9075b_28 (fun H locs hP hD hS => ?_)
  rw [sb_cl0, nI_clamp (n := cap) (by omega)] at hP hD
  refine lv_aload_n hx hb dJ7_copyOf_9075b_31 rfl (lv_at hl 0 rfl) ?_
  exact fin (some (.ref r1)) _ _ _ _ _ ⟨r1, rfl, rfl⟩ (fun z h => by cases h; exact ⟨_, rfl⟩) (by constructor <;> (intro h; cases h)) hP hD hS dJ7_copyOf_9075b_32
set_option maxHeartbeats 4000000 in
set_option maxRecDepth 100000 in
theorem kJ5_ensure (q r cap : Nat) (L : List Nat) (f : Nat → Int32) (hf : Tx L f) (hL : L.length ≤ cap) (hcap : cap ≤ 410) (k : Nat) (hk : k ≤ 200) : CnG D g x l yJ5_ensureCapacityInternal_d00df cJ5_ensureCapacityInternal_d00df 3 none 3 140 1 1024 [.ref q, .int (nI k)] (sbW g q r L.length cap f) (fun v w => v = none ∧ ∃ r1 cap1 f1, w = sbW g q r1 L.length cap1 f1 ∧ k ≤ cap1 ∧ cap ≤ cap1 ∧ cap1 ≤ 410 ∧ Tx L f1) := by
  refine CnG.v (by decide +kernel) (Nat.le_of_ble_eq_true rfl) (fun p e s m args below meth c A Q ls X hnm hD hP hS fin hl => ?_)
  obtain ⟨hx, hb, hml, -, -, hown, hts, hK, hA, hE⟩ := id X
  have hl : lv_has ls 3 [(0, .ref q), (1, .int (nI k))] := hl
  refine lv_aload_n hx hb dJ5_ensureCapacityInternal_d00df_0 rfl (lv_at hl 0 rfl) ?_
  refine mget X fl_J5_15 hP 0 rfl rfl dJ5_ensureCapacityInternal_d00df_1 ?_
  refine va_alen hx hb hK hP 1 3 rfl rfl (v := nI cap) rfl dJ5_ensureCapacityInternal_d00df_4 ?_
  refine lv_aload_n hx hb dJ5_ensureCapacityInternal_d00df_5 rfl (lv_at hl 0 rfl) ?_
  refine mget X fl_J5_22 hP 0 rfl rfl dJ5_ensureCapacityInternal_d00df_6 ?_
  refine lv_ishr hx hb dJ5_ensureCapacityInternal_d00df_9 ?_
  rw [sb_shr0]
  refine lv_istore_n (lv' := [(2, .int (nI cap)), (0, .ref q), (1, .int (nI k))]) hx hb dJ5_ensureCapacityInternal_d00df_10 rfl hl (by decide) rfl (fun ls hl => ?_)
  refine lv_iload_n hx hb dJ5_ensureCapacityInternal_d00df_11 rfl (lv_at hl 2 rfl) ?_
  refine lv_iload_n hx hb dJ5_ensureCapacityInternal_d00df_12 rfl (lv_at hl 0 rfl) ?_
  refine lv_isub hx hb dJ5_ensureCapacityInternal_d00df_13 ?_
  have hsub : nI k - nI cap ≤ 0 ↔ k ≤ cap := by
    rw [Int32.le_iff_toInt_le, pk_sub_toInt (by omega) (by omega), Int32.toInt_zero]
    omega
  refine lv_if_le (tgt := 38) hx hb dJ5_ensureCapacityInternal_d00df_14 (by decide) (fun h => ?_) (fun h => ?_)
  · refine W.widen (k := 1) (n := 1024) (Nat.le_of_ble_eq_true rfl) (Nat.le_of_ble_eq_true rfl) ?_
    exact fin none _ _ _ _ _ ⟨rfl, r, cap, f, rfl, hsub.mp h, Nat.le_refl _, hcap, hf⟩ (fun z h => by cases h) (by constructor <;> (intro; rfl)) hP hD hS dJ5_ensureCapacityInternal_d00df_38
  · have h : cap < k := Nat.lt_of_not_le (fun z => h (hsub.mpr z))
    have hmx : cap + max (k - cap) (cap + 2) ≤ 410 ∧ cap < cap + max (k - cap) (cap + 2) ∧ k ≤ cap + max (k - cap) (cap + 2) := by
      rcases Nat.le_total (k - cap) (cap + 2) with z | z
      · rw [Nat.max_eq_right z]; omega
      · rw [Nat.max_eq_left z]; omega
    have hC := kJ5_newCapacity D g x l q r L.length cap f k h (by omega)
    generalize cap + max (k - cap) (cap + 2) = cap1 at hmx hC
    obtain ⟨m1, m2, m3⟩ := hmx
    refine lv_aload_n hx hb dJ5_ensureCapacityInternal_d00df_17 rfl (lv_at hl 1 rfl) ?_
    refine lv_aload_n hx hb dJ5_ensureCapacityInternal_d00df_18 rfl (lv_at hl 1 rfl) ?_
    refine mget X fl_J5_15 hP 0 rfl rfl dJ5_ensureCapacityInternal_d00df_19 ?_
    refine lv_aload_n hx hb dJ5_ensureCapacityInternal_d00df_22 rfl (lv_at hl 1 rfl) ?_
    refine lv_iload_n hx hb dJ5_ensureCapacityInternal_d00df_23 rfl (lv_at hl 2 rfl) ?_
    refine mcallU X (As := [.int (nI k)]) (rest := [.ref r, .ref q]) (ws1 := sbW g q r L.length cap f) (st1 := [.int (nI cap1), .ref r, .ref q]) hC mw_J5_newCapacity_0f7a4 ml_J5_104 ⟨(Nat.le_of_ble_eq_true rfl), (Nat.le_of_ble_eq_true rfl)⟩ hP hD hS [0, 1] (by decide +kernel) rfl rfl 0 rfl rfl rfl hl.1 rfl (Nat.le_of_ble_eq_true rfl) dJ5_ensureCapacityInternal_d00df_24 ⟨(Nat.le_of_ble_eq_true rfl), (Nat.le_of_ble_eq_true rfl)⟩ rfl rfl (fun H locs hP hD hS => ?_)
    refine lv_aload_n hx hb dJ5_ensureCapacityInternal_d00df_27 rfl (lv_at hl 1 rfl) ?_
    refine mget X fl_J5_22 hP 0 rfl rfl dJ5_ensureCapacityInternal_d00df_28 ?_
    refine lv_ishl hx hb dJ5_ensureCapacityInternal_d00df_31 ?_
    rw [sb_shl0]
    refine gcallS X (As := [.ref r, .int (nI cap1)]) (rest := [.ref q]) (wr := [(q, .inr (8, [.ref r, .int 0, .int 0, .int (nI L.length)]))]) (wc := [(r, .inl (g 3, cap, .inl f))]) (kJ7_copyOf D g x l r cap f hf.1 cap1 (by omega) (by omega)) mw_J7_copyOf_9075b ml_J5_108 ⟨(Nat.le_of_ble_eq_true rfl), (Nat.le_of_ble_eq_true rfl)⟩ [0, 1] (by decide +kernel) rfl hP hD hS rfl hl.1 rfl (Nat.le_of_ble_eq_true rfl) dJ5_ensureCapacityInternal_d00df_32 ⟨(Nat.le_of_ble_eq_true rfl), (Nat.le_of_ble_eq_true rfl)⟩ (fun v w1 H locs hp hP hD hS => ?_)
    obtain ⟨r1, rfl, rfl⟩ := hp
    refine W.widen (k := 1) (n := 1024) (Nat.le_of_ble_eq_true rfl) (Nat.le_of_ble_eq_true rfl) ?_
    have hP : va_P D vwCl [(q, .inr (8, [.ref r, .int 0, .int 0, .int (nI L.length)])), (r, .inl (g 3, cap, .inl f)), (r1, .inl (g 3, cap1, .inl (va_cpy f (fun _ => 0) 0 0 cap)))] H := hP
    have hD : va_D A [(q, .inr (8, [.ref r, .int 0, .int 0, .int (nI L.length)])), (r, .inl (g 3, cap, .inl f)), (r1, .inl (g 3, cap1, .inl (va_cpy f (fun _ => 0) 0 0 cap)))] := hD
    refine gputR X fl_J5_15 (ws1 := [(q, .inr (8, [.ref r1, .int 0, .int 0, .int (nI L.length)])), (r, .inl (g 3, cap, .inl f)), (r1, .inl (g 3, cap1, .inl (va_cpy f (fun _ => 0) 0 0 cap)))]) hP hD hS 0 rfl rfl ⟨_, rfl, .array .byte, by decide +kernel, rfl, rfl⟩ dJ5_ensureCapacityInternal_d00df_35 rfl (fun H locs hP hD hS => ?_)
    obtain ⟨hP, hD⟩ := gpick (wq := sbW g q r1 L.length cap1 (va_cpy f (fun _ => 0) 0 0 cap)) [0, 2] (by decide +kernel) rfl hP hD
    exact fin none _ _ _ _ _ ⟨rfl, r1, cap1, _, rfl, m3, by omega, m1, hf.keep (sb_fitC hf.1 sb_fit0) (fun i hi => sb_cpy0 (by omega))⟩ (fun z h => by cases h) (by constructor <;> (intro; rfl)) hP hD hS dJ5_ensureCapacityInternal_d00df_38
set_option maxHeartbeats 4000000 in
set_option maxRecDepth 100000 in
theorem kJ5c_infl (q r n : Nat) (i : Nat) (hi : i < 13) : Cn D g x l yJ5_inflateIfNeededFor_a7421 cJ5_inflateIfNeededFor_a7421 2 none 1 40 [.ref q, .ref (x.1 i)] ((q, .inr (8, [.ref r, .int 0, .int 0, .int (nI n)])) :: []) ((q, .inr (8, [.ref r, .int 0, .int 0, .int (nI n)])) :: []) none := by
  refine CnV (by decide +kernel) (Nat.le_of_ble_eq_true rfl) (fun p e s m args below meth c9 A Q ls X hD hP hS fin hl => ?_)
  obtain ⟨hx, hb, hml, -, -, hown, hts, hK, hA, hE⟩ := id X
  have hl : lv_has ls 2 [(0, .ref q), (1, .ref (x.1 i))] := hl
  refine va_gets hx hb hE.2.2.2.2.1 hS hown (hts _ fs_J5_18) (fun _ h => h) dJ5_inflateIfNeededFor_a7421_0 ?_
  refine lv_if_eq (tgt := 21) hx hb dJ5_inflateIfNeededFor_a7421_3 (by decide) (fun h => absurd h (by decide)) (fun _ => ?_)
  refine lv_aload_n hx hb dJ5_inflateIfNeededFor_a7421_6 rfl (lv_at hl 0 rfl) ?_
  refine mget X fl_J5_22 hP 0 rfl rfl dJ5_inflateIfNeededFor_a7421_7 ?_
  refine lv_aload_n hx hb dJ5_inflateIfNeededFor_a7421_10 rfl (lv_at hl 1 rfl) ?_
  refine mcallE X (As := []) (rest := [.int 0]) (st1 := [.int 0, .int 0]) (kJ0_coder D g x l i hi) hi rfl mw_J0_coder_7d493 ml_J5_40 ⟨(Nat.le_of_ble_eq_true rfl), (Nat.le_of_ble_eq_true rfl)⟩ hP hD hS rfl hl.1 rfl (Nat.le_of_ble_eq_true rfl) dJ5_inflateIfNeededFor_a7421_11 ⟨Nat.le_refl _, Nat.le_refl _⟩ rfl (fun H locs hP hD hS => ?_)
  refine lv_icmp_eq (tgt := 21) hx hb dJ5_inflateIfNeededFor_a7421_14 (by decide) (fun _ => ?_) (fun h => absurd rfl h)
  exact fin _ _ _ _ hP hS dJ5_inflateIfNeededFor_a7421_21
set_option maxHeartbeats 4000000 in
set_option maxRecDepth 100000 in
theorem kJ5c_put (q r n cap : Nat) (f : Nat → Int32) (i : Nat) (hi : i < 13) (k : Nat) (hk : k + (litB i).length ≤ cap) (hcap : cap < 65536) : Cn D g x l yJ5_putStringAt_47b60 cJ5_putStringAt_47b60 3 none 2 100 [.ref q, .int (nI k), .ref (x.1 i)] ((q, .inr (8, [.ref r, .int 0, .int 0, .int (nI n)])) :: (r, .inl (g 3, cap, .inl f)) :: []) ((q, .inr (8, [.ref r, .int 0, .int 0, .int (nI n)])) :: (r, .inl (g 3, cap, .inl (va_cpy (fun j => (litB i).getD j 0) f 0 k (litB i).length))) :: []) none := by
  refine CnV (by decide +kernel) (Nat.le_of_ble_eq_true rfl) (fun p e s m args below meth c9 A Q ls X hD hP hS fin hl => ?_)
  obtain ⟨hx, hb, hml, -, -, hown, hts, hK, hA, hE⟩ := id X
  have hl : lv_has ls 3 [(0, .ref q), (1, .int (nI k)), (2, .ref (x.1 i))] := hl
  refine lv_aload_n hx hb dJ5_putStringAt_47b60_0 rfl (lv_at hl 0 rfl) ?_
  refine lv_aload_n hx hb dJ5_putStringAt_47b60_1 rfl (lv_at hl 2 rfl) ?_
  refine mcallU X (As := [.ref (x.1 i)]) (rest := []) (ws1 := ((q, .inr (8, [.ref r, .int 0, .int 0, .int (nI n)])) :: (r, .inl (g 3, cap, .inl f)) :: [])) (st1 := []) (kJ5c_infl D g x l q r n i hi) mw_J5_inflateIfNeededFor_a7421 ml_J5_397 ⟨(Nat.le_of_ble_eq_true rfl), (Nat.le_of_ble_eq_true rfl)⟩ hP hD hS [0] (by decide +kernel) rfl rfl 0 rfl rfl rfl hl.1 rfl (Nat.le_of_ble_eq_true rfl) dJ5_putStringAt_47b60_2 ⟨Nat.le_refl _, Nat.le_refl _⟩ rfl rfl (fun H locs hP hD hS => ?_)
  refine lv_aload_n hx hb dJ5_putStringAt_47b60_5 rfl (lv_at hl 2 rfl) ?_
  refine lv_aload_n hx hb dJ5_putStringAt_47b60_6 rfl (lv_at hl 0 rfl) ?_
  refine mget X fl_J5_15 hP 0 rfl rfl dJ5_putStringAt_47b60_7 ?_
  refine lv_iload_n hx hb dJ5_putStringAt_47b60_10 rfl (lv_at hl 1 rfl) ?_
  refine lv_aload_n hx hb dJ5_putStringAt_47b60_11 rfl (lv_at hl 0 rfl) ?_
  refine mget X fl_J5_22 hP 0 rfl rfl dJ5_putStringAt_47b60_12 ?_
  refine mcallEw X (As := [.ref r, .int (nI k), .int 0]) (rest := []) (ws1 := ((q, .inr (8, [.ref r, .int 0, .int 0, .int (nI n)])) :: (r, .inl (g 3, cap, .inl (va_cpy (fun j => (litB i).getD j 0) f 0 k (litB i).length))) :: [])) (st1 := []) (kJ0c_getBytes D g x l i hi r cap k f hk hcap) hi rfl mw_J0_getBytes_840e7 ml_J5_399 ⟨(Nat.le_of_ble_eq_true rfl), (Nat.le_of_ble_eq_true rfl)⟩ hP hD hS [1] (by decide +kernel) rfl rfl rfl hl.1 rfl (Nat.le_of_ble_eq_true rfl) dJ5_putStringAt_47b60_15 ⟨Nat.le_refl _, Nat.le_refl _⟩ rfl rfl (fun H locs hP hD hS => ?_)
  exact fin _ _ _ _ hP hS dJ5_putStringAt_47b60_18
set_option maxHeartbeats 4000000 in
set_option maxRecDepth 100000 in
theorem kJ5c_app (q r cap : Nat) (L : List Nat) (f : Nat → Int32) (hf : Tx L f) (hL : L.length ≤ cap) (hcap : cap ≤ 410) (i : Nat) (hi : i < 13) (hk : (L ++ (litL i)).length ≤ 200) : CnG D g x l yJ5_append_cf1ce cJ5_append_cf1ce 3 (some (.object "java/lang/AbstractStringBuilder")) 4 220 1 1024 [.ref q, .ref (x.1 i)] ((q, .inr (8, [.ref r, .int 0, .int 0, .int (nI L.length)])) :: (r, .inl (g 3, cap, .inl f)) :: []) (fun v w => v = some (.ref q) ∧ ∃ r1 cap1 f1, w = ((q, .inr (8, [.ref r1, .int 0, .int 0, .int (nI (L ++ (litL i)).length)])) :: (r1, .inl (g 3, cap1, .inl f1)) :: []) ∧ cap1 ≤ 410 ∧ (L ++ (litL i)).length ≤ cap1 ∧ Tx (L ++ (litL i)) f1) := by
  rw [List.length_append] at hk
  have hln := litL_ln i hi
  have hk : L.length + (litB i).length ≤ 200 := by omega
  refine CnG.a (Or.inl ⟨_, rfl⟩) (by decide +kernel) (Nat.le_of_ble_eq_true rfl) (fun p e s m args below meth c9 A Q ls X hnm hD hP hS fin hl => ?_)
  obtain ⟨hx, hb, hml, -, -, hown, hts, hK, hA, hE⟩ := id X
  have hl : lv_has ls 3 [(0, .ref q), (1, .ref (x.1 i))] := hl
  refine lv_aload_n hx hb dJ5_append_cf1ce_0 rfl (lv_at hl 1 rfl) ?_
  refine lv_ifnonnull (tgt := 9) hx hb dJ5_append_cf1ce_1 (by decide) ?_
  refine lv_aload_n hx hb dJ5_append_cf1ce_9 rfl (lv_at hl 1 rfl) ?_
  refine mcallE X (As := []) (rest := []) (st1 := [.int (nI (litB i).length)]) (kJ0_length D g x l i hi) hi rfl mw_J0_length_8abf5 ml_J5_32 ⟨(Nat.le_of_ble_eq_true rfl), (Nat.le_of_ble_eq_true rfl)⟩ hP hD hS rfl hl.1 rfl (Nat.le_of_ble_eq_true rfl) dJ5_append_cf1ce_10 ⟨Nat.zero_le _, Nat.zero_le _⟩ rfl (fun H locs hP hD hS => ?_)
  refine lv_istore_n (lv' := [(2, .int (nI (litB i).length)), (0, .ref q), (1, .ref (x.1 i))]) hx hb dJ5_append_cf1ce_13 rfl hl (by decide) rfl (fun ls hl => ?_)
  refine lv_aload_n hx hb dJ5_append_cf1ce_14 rfl (lv_at hl 1 rfl) ?_
  refine lv_aload_n hx hb dJ5_append_cf1ce_15 rfl (lv_at hl 1 rfl) ?_
  refine mget X fl_J5_79 hP 0 rfl rfl dJ5_append_cf1ce_16 ?_
  refine lv_iload_n hx hb dJ5_append_cf1ce_19 rfl (lv_at hl 0 rfl) ?_
  refine lv_iadd hx hb dJ5_append_cf1ce_20 ?_
  rw [nI_add]
  refine gcallU X (C := RJ4) (As := [.int (nI (L.length + (litB i).length))]) (rest := []) (wr := []) (wc := sbW g q r L.length cap f) (kJ5_ensure D g x l q r cap L f hf hL hcap (L.length + (litB i).length) hk) mw_J5_ensureCapacityInternal_d00df ml_J5_100 ⟨(Nat.le_of_ble_eq_true rfl), (Nat.le_of_ble_eq_true rfl)⟩ [0, 1] (by decide +kernel) rfl hP hD hS 0 rfl rfl rfl hl.1 rfl (Nat.le_of_ble_eq_true rfl) dJ5_append_cf1ce_21 ⟨(Nat.le_of_ble_eq_true rfl), (Nat.le_of_ble_eq_true rfl)⟩ (fun v w1 H locs hp hP hD hS => ?_)
  obtain ⟨rfl, r1, cap1, f1, rfl, g1, g2, g3, hf1⟩ := hp
  have hP : va_P D vwCl ((q, .inr (8, [.ref r1, .int 0, .int 0, .int (nI L.length)])) :: (r1, .inl (g 3, cap1, .inl f1)) :: []) H := hP
  have hD : va_D A ((q, .inr (8, [.ref r1, .int 0, .int 0, .int (nI L.length)])) :: (r1, .inl (g 3, cap1, .inl f1)) :: []) := hD
  refine lv_aload_n hx hb dJ5_append_cf1ce_24 rfl (lv_at hl 1 rfl) ?_
  refine lv_aload_n hx hb dJ5_append_cf1ce_25 rfl (lv_at hl 1 rfl) ?_
  refine mget X fl_J5_79 hP 0 rfl rfl dJ5_append_cf1ce_26 ?_
  refine lv_aload_n hx hb dJ5_append_cf1ce_29 rfl (lv_at hl 2 rfl) ?_
  refine mcallU X (As := [.int (nI L.length), .ref (x.1 i)]) (rest := []) (ws1 := ((q, .inr (8, [.ref r1, .int 0, .int 0, .int (nI L.length)])) :: (r1, .inl (g 3, cap1, .inl (va_cpy (fun j => (litB i).getD j 0) f1 0 L.length (litB i).length))) :: [])) (st1 := []) (kJ5c_put D g x l q r1 L.length cap1 f1 i hi L.length g1 (by omega)) mw_J5_putStringAt_47b60 ml_J5_208 ⟨(Nat.le_of_ble_eq_true rfl), (Nat.le_of_ble_eq_true rfl)⟩ hP hD hS [0, 1] (by decide +kernel) rfl rfl 0 rfl rfl rfl hl.1 rfl (Nat.le_of_ble_eq_true rfl) dJ5_append_cf1ce_30 ⟨(Nat.le_of_ble_eq_true rfl), (Nat.le_of_ble_eq_true rfl)⟩ rfl rfl (fun H locs hP hD hS => ?_)
  refine lv_aload_n hx hb dJ5_append_cf1ce_33 rfl (lv_at hl 1 rfl) ?_
  refine lv_dup hx hb dJ5_append_cf1ce_34 rfl ?_
  refine mget X fl_J5_79 hP 0 rfl rfl dJ5_append_cf1ce_35 ?_
  refine lv_iload_n hx hb dJ5_append_cf1ce_38 rfl (lv_at hl 0 rfl) ?_
  refine lv_iadd hx hb dJ5_append_cf1ce_39 ?_
  rw [nI_add]
  refine mputI X fl_J5_79 (ws1 := ((q, .inr (8, [.ref r1, .int 0, .int 0, .int (nI (L.length + (litB i).length))])) :: (r1, .inl (g 3, cap1, .inl (va_cpy (fun j => (litB i).getD j 0) f1 0 L.length (litB i).length))) :: [])) hP hD hS 0 rfl rfl ⟨_, rfl, rfl⟩ dJ5_append_cf1ce_40 rfl (fun H locs hP hD hS => ?_)
  refine lv_aload_n hx hb dJ5_append_cf1ce_43 rfl (lv_at hl 1 rfl) ?_
  refine W.widen (k := 1) (n := 1024) (Nat.le_of_ble_eq_true rfl) (Nat.le_of_ble_eq_true rfl) ?_
  exact fin (some (.ref q)) _ _ _ _ _ ⟨rfl, r1, cap1, _, by rw [List.length_append, ← hln.1], g3, by rw [List.length_append]; omega, hf1.app (litF_Tx hi) rfl hln.1⟩ (fun z h => by cases h; exact ⟨_, rfl⟩) (by constructor <;> (intro h; cases h)) hP hD hS dJ5_append_cf1ce_44
set_option maxHeartbeats 4000000 in
set_option maxRecDepth 100000 in
theorem kJ4c_app (q r cap : Nat) (L : List Nat) (f : Nat → Int32) (hf : Tx L f) (hL : L.length ≤ cap) (hcap : cap ≤ 410) (i : Nat) (hi : i < 13) (hk : (L ++ (litL i)).length ≤ 200) : CnG D g x l yJ4_append_15ec4 cJ4_append_15ec4 2 (some (.object "java/lang/StringBuilder")) 5 260 1 1024 [.ref q, .ref (x.1 i)] ((q, .inr (8, [.ref r, .int 0, .int 0, .int (nI L.length)])) :: (r, .inl (g 3, cap, .inl f)) :: []) (fun v w => v = some (.ref q) ∧ ∃ r1 cap1 f1, w = ((q, .inr (8, [.ref r1, .int 0, .int 0, .int (nI (L ++ (litL i)).length)])) :: (r1, .inl (g 3, cap1, .inl f1)) :: []) ∧ cap1 ≤ 410 ∧ (L ++ (litL i)).length ≤ cap1 ∧ Tx (L ++ (litL i)) f1) := by
  refine CnG.a (Or.inl ⟨_, rfl⟩) (by decide +kernel) (Nat.le_of_ble_eq_true rfl) (fun p e s m args below meth c9 A Q ls X hnm hD hP hS fin hl => ?_)
  obtain ⟨hx, hb, hml, -, -, hown, hts, hK, hA, hE⟩ := id X
  have hl : lv_has ls 2 [(0, .ref q), (1, .ref (x.1 i))] := hl
  refine lv_aload_n hx hb dJ4_append_15ec4_0 rfl (lv_at hl 0 rfl) ?_
  refine lv_aload_n hx hb dJ4_append_15ec4_1 rfl (lv_at hl 1 rfl) ?_
  refine gcallP X (C := RJ4) (As := [.ref (x.1 i)]) (rest := []) (wr := []) (kJ5c_app D g x l q r cap L f hf hL hcap i hi hk) mw_J5_append_cf1ce ml_J4_29 ⟨(Nat.le_of_ble_eq_true rfl), (Nat.le_of_ble_eq_true rfl)⟩ [0, 1] (by decide +kernel) rfl hP hD hS 0 rfl rfl rfl hl.1 rfl (Nat.le_of_ble_eq_true rfl) dJ4_append_15ec4_2 ⟨(Nat.le_of_ble_eq_true rfl), (Nat.le_of_ble_eq_true rfl)⟩ (fun v w1 H locs hp hP hD hS => ?_)
  obtain ⟨rfl, hp⟩ := hp
  refine lv_pop (va := .ref q) hx hb dJ4_append_15ec4_5 rfl ?_
  refine lv_aload_n hx hb dJ4_append_15ec4_6 rfl (lv_at hl 0 rfl) ?_
  refine W.widen (k := 1) (n := 1024) (Nat.le_of_ble_eq_true rfl) (Nat.le_of_ble_eq_true rfl) ?_
  exact fin (some (.ref q)) w1 _ _ _ _ ⟨rfl, hp⟩ (fun z h => by cases h; exact ⟨_, rfl⟩) (by constructor <;> (intro h; cases h)) hP hD hS dJ4_append_15ec4_7
set_option maxHeartbeats 4000000 in
set_option maxRecDepth 100000 in
theorem kJ5d_infl (q r n : Nat) (a b : Nat) (M : List Nat) (h : Nat → Int32) (hh : Tx M h) : Cn D g x l yJ5_inflateIfNeededFor_a7421 cJ5_inflateIfNeededFor_a7421 2 none 1 40 [.ref q, .ref a] ((q, .inr (8, [.ref r, .int 0, .int 0, .int (nI n)])) :: (stW g a b M.length h)) ((q, .inr (8, [.ref r, .int 0, .int 0, .int (nI n)])) :: (stW g a b M.length h)) none := by
  refine CnV (by decide +kernel) (Nat.le_of_ble_eq_true rfl) (fun p e s m args below meth c9 A Q ls X hD hP hS fin hl => ?_)
  obtain ⟨hx, hb, hml, -, -, hown, hts, hK, hA, hE⟩ := id X
  have hl : lv_has ls 2 [(0, .ref q), (1, .ref a)] := hl
  refine va_gets hx hb hE.2.2.2.2.1 hS hown (hts _ fs_J5_18) (fun _ h => h) dJ5_inflateIfNeededFor_a7421_0 ?_
  refine lv_if_eq (tgt := 21) hx hb dJ5_inflateIfNeededFor_a7421_3 (by decide) (fun h => absurd h (by decide)) (fun _ => ?_)
  refine lv_aload_n hx hb dJ5_inflateIfNeededFor_a7421_6 rfl (lv_at hl 0 rfl) ?_
  refine mget X fl_J5_22 hP 0 rfl rfl dJ5_inflateIfNeededFor_a7421_7 ?_
  refine lv_aload_n hx hb dJ5_inflateIfNeededFor_a7421_10 rfl (lv_at hl 1 rfl) ?_
  refine mcallV X (As := []) (rest := [.int 0]) (ws1 := ((q, .inr (8, [.ref r, .int 0, .int 0, .int (nI n)])) :: (stW g a b M.length h))) (st1 := [.int 0, .int 0]) (kJ0d_coder D g x l a b M.length h) mw_J0_coder_7d493 ml_J5_40 ⟨(Nat.le_of_ble_eq_true rfl), (Nat.le_of_ble_eq_true rfl)⟩ hP hD hS [1, 2] (by decide +kernel) rfl rfl 1 rfl rfl rfl hl.1 rfl (Nat.le_of_ble_eq_true rfl) dJ5_inflateIfNeededFor_a7421_11 ⟨Nat.le_refl _, Nat.le_refl _⟩ rfl rfl (fun H locs hP hD hS => ?_)
  refine lv_icmp_eq (tgt := 21) hx hb dJ5_inflateIfNeededFor_a7421_14 (by decide) (fun _ => ?_) (fun h => absurd rfl h)
  exact fin _ _ _ _ hP hS dJ5_inflateIfNeededFor_a7421_21
set_option maxHeartbeats 4000000 in
set_option maxRecDepth 100000 in
theorem kJ5d_put (q r n cap : Nat) (f : Nat → Int32) (a b : Nat) (M : List Nat) (h : Nat → Int32) (hh : Tx M h) (k : Nat) (hk : k + M.length ≤ cap) (hcap : cap < 65536) : Cn D g x l yJ5_putStringAt_47b60 cJ5_putStringAt_47b60 3 none 2 100 [.ref q, .int (nI k), .ref a] ((q, .inr (8, [.ref r, .int 0, .int 0, .int (nI n)])) :: (r, .inl (g 3, cap, .inl f)) :: (stW g a b M.length h)) ((q, .inr (8, [.ref r, .int 0, .int 0, .int (nI n)])) :: (r, .inl (g 3, cap, .inl (va_cpy h f 0 k M.length))) :: (stW g a b M.length h)) none := by
  refine CnV (by decide +kernel) (Nat.le_of_ble_eq_true rfl) (fun p e s m args below meth c9 A Q ls X hD hP hS fin hl => ?_)
  obtain ⟨hx, hb, hml, -, -, hown, hts, hK, hA, hE⟩ := id X
  have hl : lv_has ls 3 [(0, .ref q), (1, .int (nI k)), (2, .ref a)] := hl
  refine lv_aload_n hx hb dJ5_putStringAt_47b60_0 rfl (lv_at hl 0 rfl) ?_
  refine lv_aload_n hx hb dJ5_putStringAt_47b60_1 rfl (lv_at hl 2 rfl) ?_
  refine mcallU X (As := [.ref a]) (rest := []) (ws1 := ((q, .inr (8, [.ref r, .int 0, .int 0, .int (nI n)])) :: (r, .inl (g 3, cap, .inl f)) :: (stW g a b M.length h))) (st1 := []) (kJ5d_infl D g x l q r n a b M h hh) mw_J5_inflateIfNeededFor_a7421 ml_J5_397 ⟨(Nat.le_of_ble_eq_true rfl), (Nat.le_of_ble_eq_true rfl)⟩ hP hD hS [0, 2, 3] (by decide +kernel) rfl rfl 0 rfl rfl rfl hl.1 rfl (Nat.le_of_ble_eq_true rfl) dJ5_putStringAt_47b60_2 ⟨Nat.le_refl _, Nat.le_refl _⟩ rfl rfl (fun H locs hP hD hS => ?_)
  refine lv_aload_n hx hb dJ5_putStringAt_47b60_5 rfl (lv_at hl 2 rfl) ?_
  refine lv_aload_n hx hb dJ5_putStringAt_47b60_6 rfl (lv_at hl 0 rfl) ?_
  refine mget X fl_J5_15 hP 0 rfl rfl dJ5_putStringAt_47b60_7 ?_
  refine lv_iload_n hx hb dJ5_putStringAt_47b60_10 rfl (lv_at hl 1 rfl) ?_
  refine lv_aload_n hx hb dJ5_putStringAt_47b60_11 rfl (lv_at hl 0 rfl) ?_
  refine mget X fl_J5_22 hP 0 rfl rfl dJ5_putStringAt_47b60_12 ?_
  refine mcallV X (As := [.ref r, .int (nI k), .int 0]) (rest := []) (ws1 := ((q, .inr (8, [.ref r, .int 0, .int 0, .int (nI n)])) :: (r, .inl (g 3, cap, .inl (va_cpy h f 0 k M.length))) :: (stW g a b M.length h))) (st1 := []) (kJ0d_getBytes D g x l a b M.length h hh.1 r cap k f hk hcap) mw_J0_getBytes_840e7 ml_J5_399 ⟨(Nat.le_of_ble_eq_true rfl), (Nat.le_of_ble_eq_true rfl)⟩ hP hD hS [1, 2, 3] (by decide +kernel) rfl rfl 2 rfl rfl rfl hl.1 rfl (Nat.le_of_ble_eq_true rfl) dJ5_putStringAt_47b60_15 ⟨Nat.le_refl _, Nat.le_refl _⟩ rfl rfl (fun H locs hP hD hS => ?_)
  exact fin _ _ _ _ hP hS dJ5_putStringAt_47b60_18
set_option maxHeartbeats 4000000 in
set_option maxRecDepth 100000 in
theorem kJ5d_app (q r cap : Nat) (L : List Nat) (f : Nat → Int32) (hf : Tx L f) (hL : L.length ≤ cap) (hcap : cap ≤ 410) (a b : Nat) (M : List Nat) (h : Nat → Int32) (hh : Tx M h) (hk : (L ++ M).length ≤ 200) : CnG D g x l yJ5_append_cf1ce cJ5_append_cf1ce 3 (some (.object "java/lang/AbstractStringBuilder")) 4 220 1 1024 [.ref q, .ref a] ((q, .inr (8, [.ref r, .int 0, .int 0, .int (nI L.length)])) :: (r, .inl (g 3, cap, .inl f)) :: (stW g a b M.length h)) (fun v w => v = some (.ref q) ∧ ∃ r1 cap1 f1, w = ((q, .inr (8, [.ref r1, .int 0, .int 0, .int (nI (L ++ M).length)])) :: (r1, .inl (g 3, cap1, .inl f1)) :: (stW g a b M.length h)) ∧ cap1 ≤ 410 ∧ (L ++ M).length ≤ cap1 ∧ Tx (L ++ M) f1) := by
  rw [List.length_append] at hk
  have hk : L.length + M.length ≤ 200 := by omega
  refine CnG.a (Or.inl ⟨_, rfl⟩) (by decide +kernel) (Nat.le_of_ble_eq_true rfl) (fun p e s m args below meth c9 A Q ls X hnm hD hP hS fin hl => ?_)
  obtain ⟨hx, hb, hml, -, -, hown, hts, hK, hA, hE⟩ := id X
  have hl : lv_has ls 3 [(0, .ref q), (1, .ref a)] := hl
  refine lv_aload_n hx hb dJ5_append_cf1ce_0 rfl (lv_at hl 1 rfl) ?_
  refine lv_ifnonnull (tgt := 9) hx hb dJ5_append_cf1ce_1 (by decide) ?_
  refine lv_aload_n hx hb dJ5_append_cf1ce_9 rfl (lv_at hl 1 rfl) ?_
  refine mcallV X (As := []) (rest := []) (ws1 := ((q, .inr (8, [.ref r, .int 0, .int 0, .int (nI L.length)])) :: (r, .inl (g 3, cap, .inl f)) :: (stW g a b M.length h))) (st1 := [.int (nI M.length)]) (kJ0d_length D g x l a b M.length h) mw_J0_length_8abf5 ml_J5_32 ⟨(Nat.le_of_ble_eq_true rfl), (Nat.le_of_ble_eq_true rfl)⟩ hP hD hS [2, 3] (by decide +kernel) rfl rfl 2 rfl rfl rfl hl.1 rfl (Nat.le_of_ble_eq_true rfl) dJ5_append_cf1ce_10 ⟨Nat.zero_le _, Nat.zero_le _⟩ rfl rfl (fun H locs hP hD hS => ?_)
  refine lv_istore_n (lv' := [(2, .int (nI M.length)), (0, .ref q), (1, .ref a)]) hx hb dJ5_append_cf1ce_13 rfl hl (by decide) rfl (fun ls hl => ?_)
  refine lv_aload_n hx hb dJ5_append_cf1ce_14 rfl (lv_at hl 1 rfl) ?_
  refine lv_aload_n hx hb dJ5_append_cf1ce_15 rfl (lv_at hl 1 rfl) ?_
  refine mget X fl_J5_79 hP 0 rfl rfl dJ5_append_cf1ce_16 ?_
  refine lv_iload_n hx hb dJ5_append_cf1ce_19 rfl (lv_at hl 0 rfl) ?_
  refine lv_iadd hx hb dJ5_append_cf1ce_20 ?_
  rw [nI_add]
  refine gcallU X (C := RJ4) (As := [.int (nI (L.length + M.length))]) (rest := []) (wr := (stW g a b M.length h)) (wc := sbW g q r L.length cap f) (kJ5_ensure D g x l q r cap L f hf hL hcap (L.length + M.length) hk) mw_J5_ensureCapacityInternal_d00df ml_J5_100 ⟨(Nat.le_of_ble_eq_true rfl), (Nat.le_of_ble_eq_true rfl)⟩ [2, 3, 0, 1] (by decide +kernel) rfl hP hD hS 0 rfl rfl rfl hl.1 rfl (Nat.le_of_ble_eq_true rfl) dJ5_append_cf1ce_21 ⟨(Nat.le_of_ble_eq_true rfl), (Nat.le_of_ble_eq_true rfl)⟩ (fun v w1 H locs hp hP hD hS => ?_)
  obtain ⟨rfl, r1, cap1, f1, rfl, g1, g2, g3, hf1⟩ := hp
  obtain ⟨hP, hD⟩ := gpick (wq := ((q, .inr (8, [.ref r1, .int 0, .int 0, .int (nI L.length)])) :: (r1, .inl (g 3, cap1, .inl f1)) :: (stW g a b M.length h))) [2, 3, 0, 1] (by decide +kernel) rfl hP hD
  have hP : va_P D vwCl ((q, .inr (8, [.ref r1, .int 0, .int 0, .int (nI L.length)])) :: (r1, .inl (g 3, cap1, .inl f1)) :: (stW g a b M.length h)) H := hP
  have hD : va_D A ((q, .inr (8, [.ref r1, .int 0, .int 0, .int (nI L.length)])) :: (r1, .inl (g 3, cap1, .inl f1)) :: (stW g a b M.length h)) := hD
  refine lv_aload_n hx hb dJ5_append_cf1ce_24 rfl (lv_at hl 1 rfl) ?_
  refine lv_aload_n hx hb dJ5_append_cf1ce_25 rfl (lv_at hl 1 rfl) ?_
  refine mget X fl_J5_79 hP 0 rfl rfl dJ5_append_cf1ce_26 ?_
  refine lv_aload_n hx hb dJ5_append_cf1ce_29 rfl (lv_at hl 2 rfl) ?_
  refine mcallU X (As := [.int (nI L.length), .ref a]) (rest := []) (ws1 := ((q, .inr (8, [.ref r1, .int 0, .int 0, .int (nI L.length)])) :: (r1, .inl (g 3, cap1, .inl (va_cpy h f1 0 L.length M.length))) :: (stW g a b M.length h))) (st1 := []) (kJ5d_put D g x l q r1 L.length cap1 f1 a b M h hh L.length g1 (by omega)) mw_J5_putStringAt_47b60 ml_J5_208 ⟨(Nat.le_of_ble_eq_true rfl), (Nat.le_of_ble_eq_true rfl)⟩ hP hD hS [0, 1, 2, 3] (by decide +kernel) rfl rfl 0 rfl rfl rfl hl.1 rfl (Nat.le_of_ble_eq_true rfl) dJ5_append_cf1ce_30 ⟨(Nat.le_of_ble_eq_true rfl), (Nat.le_of_ble_eq_true rfl)⟩ rfl rfl (fun H locs hP hD hS => ?_)
  refine lv_aload_n hx hb dJ5_append_cf1ce_33 rfl (lv_at hl 1 rfl) ?_
  refine lv_dup hx hb dJ5_append_cf1ce_34 rfl ?_
  refine mget X fl_J5_79 hP 0 rfl rfl dJ5_append_cf1ce_35 ?_
  refine lv_iload_n hx hb dJ5_append_cf1ce_38 rfl (lv_at hl 0 rfl) ?_
  refine lv_iadd hx hb dJ5_append_cf1ce_39 ?_
  rw [nI_add]
  refine mputI X fl_J5_79 (ws1 := ((q, .inr (8, [.ref r1, .int 0, .int 0, .int (nI (L.length + M.length))])) :: (r1, .inl (g 3, cap1, .inl (va_cpy h f1 0 L.length M.length))) :: (stW g a b M.length h))) hP hD hS 0 rfl rfl ⟨_, rfl, rfl⟩ dJ5_append_cf1ce_40 rfl (fun H locs hP hD hS => ?_)
  refine lv_aload_n hx hb dJ5_append_cf1ce_43 rfl (lv_at hl 1 rfl) ?_
  refine W.widen (k := 1) (n := 1024) (Nat.le_of_ble_eq_true rfl) (Nat.le_of_ble_eq_true rfl) ?_
  exact fin (some (.ref q)) _ _ _ _ _ ⟨rfl, r1, cap1, _, by rw [List.length_append], g3, by rw [List.length_append]; omega, hf1.app hh rfl rfl⟩ (fun z h => by cases h; exact ⟨_, rfl⟩) (by constructor <;> (intro h; cases h)) hP hD hS dJ5_append_cf1ce_44
set_option maxHeartbeats 4000000 in
set_option maxRecDepth 100000 in
theorem kJ4d_app (q r cap : Nat) (L : List Nat) (f : Nat → Int32) (hf : Tx L f) (hL : L.length ≤ cap) (hcap : cap ≤ 410) (a b : Nat) (M : List Nat) (h : Nat → Int32) (hh : Tx M h) (hk : (L ++ M).length ≤ 200) : CnG D g x l yJ4_append_15ec4 cJ4_append_15ec4 2 (some (.object "java/lang/StringBuilder")) 5 260 1 1024 [.ref q, .ref a] ((q, .inr (8, [.ref r, .int 0, .int 0, .int (nI L.length)])) :: (r, .inl (g 3, cap, .inl f)) :: (stW g a b M.length h)) (fun v w => v = some (.ref q) ∧ ∃ r1 cap1 f1, w = ((q, .inr (8, [.ref r1, .int 0, .int 0, .int (nI (L ++ M).length)])) :: (r1, .inl (g 3, cap1, .inl f1)) :: (stW g a b M.length h)) ∧ cap1 ≤ 410 ∧ (L ++ M).length ≤ cap1 ∧ Tx (L ++ M) f1) := by
  refine CnG.a (Or.inl ⟨_, rfl⟩) (by decide +kernel) (Nat.le_of_ble_eq_true rfl) (fun p e s m args below meth c9 A Q ls X hnm hD hP hS fin hl => ?_)
  obtain ⟨hx, hb, hml, -, -, hown, hts, hK, hA, hE⟩ := id X
  have hl : lv_has ls 2 [(0, .ref q), (1, .ref a)] := hl
  refine lv_aload_n hx hb dJ4_append_15ec4_0 rfl (lv_at hl 0 rfl) ?_
  refine lv_aload_n hx hb dJ4_append_15ec4_1 rfl (lv_at hl 1 rfl) ?_
  refine gcallP X (C := RJ4) (As := [.ref a]) (rest := []) (wr := []) (kJ5d_app D g x l q r cap L f hf hL hcap a b M h hh hk) mw_J5_append_cf1ce ml_J4_29 ⟨(Nat.le_of_ble_eq_true rfl), (Nat.le_of_ble_eq_true rfl)⟩ [0, 1, 2, 3] (by decide +kernel) rfl hP hD hS 0 rfl rfl rfl hl.1 rfl (Nat.le_of_ble_eq_true rfl) dJ4_append_15ec4_2 ⟨(Nat.le_of_ble_eq_true rfl), (Nat.le_of_ble_eq_true rfl)⟩ (fun v w1 H locs hp hP hD hS => ?_)
  obtain ⟨rfl, hp⟩ := hp
  refine lv_pop (va := .ref q) hx hb dJ4_append_15ec4_5 rfl ?_
  refine lv_aload_n hx hb dJ4_append_15ec4_6 rfl (lv_at hl 0 rfl) ?_
  refine W.widen (k := 1) (n := 1024) (Nat.le_of_ble_eq_true rfl) (Nat.le_of_ble_eq_true rfl) ?_
  exact fin (some (.ref q)) w1 _ _ _ _ ⟨rfl, hp⟩ (fun z h => by cases h; exact ⟨_, rfl⟩) (by constructor <;> (intro h; cases h)) hP hD hS dJ4_append_15ec4_7
end TXB
