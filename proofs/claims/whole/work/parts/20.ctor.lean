/-! ===== makers: what a constructor leaves ===== -/
abbrev rmC (fr lo mc ms : Nat) : Room := { frames := fr, cells := mc, slots := ms, locals := lo }
def CnC (D : va_G) (g : Nat → ClassId) (x : Xd) (l : Launch) (y : MethodName) (cc : ByteArray) (nL fr lo mc ms : Nat) (b : Nat) (w0 : va_W) (post : va_W → Prop) : Prop :=
  ∀ sz : Nat, Met l y (mws y cc nL none) (rmC fr lo mc ms) (va_Pc [.ref b] (fun U => U.heap.size = sz ∧ va_P D vwCl w0 U.heap ∧ va_K D vwCl (tyA g) U ∧ va_D (fun _ => True) w0 ∧ Ext x (va_A w0 sz) U U.heap))
    (fun _ st oc t => oc = .returned none ∧ ∃ w1, post w1 ∧ va_P D vwCl w1 t.heap ∧ va_D (va_A w0 sz) w1 ∧ va_F (va_A w0 sz) st t) mc ms (va_A w0 sz)
theorem CnC.mk {D : va_G} {g : Nat → ClassId} {x : Xd} {l : Launch} {y : MethodName} {cc : ByteArray} {nL fr lo mc ms b : Nat} {w0 : va_W} {post : va_W → Prop} (hy : plainFor y = true) (hyn : y.name = "<init>") (hn : (lg_sl [.ref b]).length ≤ nL)
    (body : ∀ (p : Program) (e : Env) (s : State) (m : MethodId) (args : Array Value) (below : List Frame) (meth : Method) (c : Code) (A : Nat → Prop) (Q : State → Prop) (ls : Array Slot), Cx p s m args meth c y.cls cc nL none D g x A → meth.name = "<init>" → va_D A w0 → va_P D vwCl w0 s.heap → va_S A s.heap s.heap [] →
      (∀ (H : Heap) (locs : List Loc) (pc : Nat) (ls : Array Slot) (w1 : va_W), post w1 → va_P D vwCl w1 H → va_D A w1 → va_S A s.heap H locs → decode cc pc = .ok (.return_, 1) → W p l e (rmC fr lo mc ms) s m args below meth c H locs mc ms Q (F0 m pc ls [])) → lv_has ls nL (lv_args 0 [.ref b]) → W p l e (rmC fr lo mc ms) s m args below meth c s.heap [] 0 0 Q (F0 m 0 ls [])) :
    CnC D g x l y cc nL fr lo mc ms b w0 post := by
  intro sz
  refine met_of (cc := cc) (maxL := nL) (ret := none) hy rfl ?_
  intro p e s m args below meth c s₁ B hml hv
  obtain ⟨rfl, hsz, hP, hK, hD0, hE0⟩ := hv
  subst hsz
  have hts : ∀ w ∈ wG, w.before [Value.ref b].toArray s = true := fun w h => atoms_spec (ws := mws y cc nL none) B.pre w (List.mem_cons_of_mem _ h)
  have hown : s.vm.findClass y.cls = some m.cls := findClass_of_methodNamed B.named
  have hl := lv_entry [Value.ref b] (n := nL) hn
  rw [lg_entry_eq]
  exact body p e s m [Value.ref b].toArray below meth c (va_A w0 s.heap.size) _ _ ⟨B.exec, B.bytes, hml, B.returns, B.notSynchronized, hown, hts, hK, fun q h => Or.inr h, hE0⟩ ((name_of_methodNamed B.named B.method).1.trans hyn) hD0.self hP va_S.rf
    (fun H locs pc ls w1 hp hP hD hS hdg => W.vret B.exec B.bytes B.returns (fun t ht hW => ⟨rfl, w1, hp, by rw [ht]; exact hP, hD, hS.F ht⟩) hS.2.2 hdg B.notSynchronized) hl
/-- what the tables say of the making of an object -/
def Nw (own : String) (idx ci N : Nat) (fs : List Value) : Prop := ∃ (C : String) (T : u_T) (ty : Nat → FieldType), vwCl[ci]? = some (C, T, N) ∧ Cond.classLink own idx C ∈ wG ∧ Cond.instantiable C N ∈ wG ∧ Cond.initialized C ∈ wG ∧ (∀ w ∈ u_ws C T N, w ∈ wG) ∧ (∀ k, k < N → parseFieldDescriptor (T k).2.2.1 = some (ty k)) ∧ (∀ j, j < N → defaultValue (ty j) = vp_V fs j)
def MwI (y : MethodName) (cy : ByteArray) (nLy : Nat) : Prop := y.name = "<init>" ∧ Cond.instanceMethod y ∈ wG ∧ Cond.initialized y.cls ∈ wG ∧ Cond.code y cy nLy none ∈ wG ∧ (y.cls ≠ "java/lang/invoke/MethodHandle" ∧ y.cls ≠ "java/lang/invoke/VarHandle" ∧ (parseMethodDescriptor y.desc).map (fun d => d.parameters.length) = some 0)
section MAK
variable {p : Program} {l : Launch} {e : Env} {R : Room} {s : State} {m : MethodId} {args : Array Value} {below : List Frame} {meth : Method} {c : Code} {H : Heap} {locs : List Loc} {cells slots : Nat} {Q : State → Prop}
variable {D : va_G} {g : Nat → ClassId} {x : Xd} {A : Nat → Prop} {own : String} {cc : ByteArray} {nL : Nat} {ret0 : Option FieldType} {ws ws1 : va_W} {pc : Nat} {ls : Array Slot} {rest : List Value}
theorem cnewO (X : Cx p s m args meth c own cc nL ret0 D g x A) {idx ci N : Nat} {fs : List Value} (hN : Nw own idx ci N fs) (hP : va_P D vwCl ws H) (hD : va_D A ws) (hS : va_S A s.heap H locs) (hc : cells + 1 ≤ R.cells) (hs : slots + N ≤ R.slots) (hdg : decode cc pc = .ok (.new idx, 3))
    (kk : ∀ (q : Nat) (H1 : Heap), va_P D vwCl (ws ++ [(q, .inr (ci, fs))]) H1 → va_D A (ws ++ [(q, .inr (ci, fs))]) → va_S A s.heap H1 locs → W p l e R s m args below meth c H1 locs (cells + 1) (slots + N) Q (F0 m (pc + 3) ls (.ref q :: rest))) : W p l e R s m args below meth c H locs cells slots Q (F0 m pc ls rest) := by
  obtain ⟨hx, hb, hml, -, -, hown, hts, hK, hA, hE⟩ := X
  obtain ⟨C, T, ty, h1, h2, h3, h4, h5, h6, h7⟩ := hN
  exact va_new hx hb hts h5 ty h6 hown (hts _ h2) (hts _ h3) (hts _ h4) hK hP hD hS hA h1 h7 hc hs hdg kk
theorem cnewA (X : Cx p s m args meth c own cc nL ret0 D g x A) {at9 : ArrayType} (k9 : Nat) {ty : FieldType} (hk9 : (tyA g)[k9]? = some (g k9, ty)) (hty : newarray.typeOf at9 = ty) (hob : ∀ C, ty ≠ .object C) (hw : Cond.arrayClass ty ∈ wG) (hP : va_P D vwCl ws H) (hD : va_D A ws) (hS : va_S A s.heap H locs) {n : Int32} {N' : Nat} {a0 : vp_A} (ha : ∀ cA : ClassId, vp_cell cA a0 = arrV cA N' (fun _ => defaultValue ty)) (hn : ¬ n < 0) (hN : n.toNatClampNeg = N') (hby : N' * componentBytes ty ≤ 536870912) (hc : cells + 1 ≤ R.cells) (hs : slots + N' ≤ R.slots) (hdg : decode cc pc = .ok (.newarray at9, 2))
    (kk : ∀ (q : Nat) (H1 : Heap), va_P D vwCl (ws ++ [(q, .inl (g k9, a0))]) H1 → va_D A (ws ++ [(q, .inl (g k9, a0))]) → va_S A s.heap H1 locs → W p l e R s m args below meth c H1 locs (cells + 1) (slots + N') Q (F0 m (pc + 2) ls (.ref q :: rest))) : W p l e R s m args below meth c H locs cells slots Q (F0 m pc ls (.int n :: rest)) := by
  obtain ⟨hx, hb, hml, -, -, hown, hts, hK, hA, hE⟩ := X
  refine va_newa hx hb (hts _ (by rw [hty]; exact hw)) hty hK hP hD hS hA ha hn hN hby hc hs hdg (fun q cA H1 hK1 hP1 hD1 hS1 => ?_)
  have h1 := (hK.2 k9 _ hk9).2
  have h2 := (hK1.2 5 (cA, ty) rfl).2
  have h3 : s.vm.findClass ("[" ++ ty.toString) = some (g k9) := by
    cases ty <;> first | exact h1 | exact absurd rfl (hob _)
  have h4 : s.vm.findClass ("[" ++ ty.toString) = some cA := by
    cases ty <;> first | exact h2 | exact absurd rfl (hob _)
  cases Option.some.inj (h3.symm.trans h4)
  exact kk q H1 hP1 hD1 hS1
theorem cobj (X : Cx p s m args meth c own cc nL ret0 D g x A) {idx : Nat} (hw : Cond.methodLink own idx objectInit ∈ wG ∧ Cond.instanceMethod objectInit ∈ wG ∧ Cond.code objectInit ⟨#[0xb1]⟩ 1 none ∈ wG) (hls : ls.size = nL) {a : Nat} (hdg : decode cc pc = .ok (.invokespecial idx, 3)) (hf : 1 ≤ R.frames) (hlo : 2 * (F0 m pc ls rest).monitorRoom + (rest.map fun v => v.category).sum + 12 ≤ R.locals)
    (kk : W p l e R s m args below meth c H locs cells slots Q (F0 m (pc + 3) ls rest)) : W p l e R s m args below meth c H locs cells slots Q (F0 m pc ls (.ref a :: rest)) := by
  obtain ⟨hx, hb, hml, -, -, hown, hts, hK, hA, hE⟩ := X
  exact W.objInit hx hb hown (hts _ hw.1) (hts _ hw.2.1) (hts _ hw.2.2) rfl (hls.trans hml.symm) rfl hdg hf hlo (W.eq (g2 := F0 m (pc + 3) ls rest) rfl kk)
theorem cputR (X : Cx p s m args meth c own cc nL ret0 D g x A) (hin : meth.name = "<init>") {idx ci k : Nat} (hF : Fl own idx ci k true) (hP : va_P D vwCl ws H) (hD : va_D A ws) (hS : va_S A s.heap H locs) (q0 : Nat) {a : Nat} {fs : List Value} (he : ws[q0]? = some (a, .inr (ci, fs))) {q : Nat} {v0 : Value} (hv : fs[k]? = some v0) (ht : ∃ z, vwCl[ci]? = some z ∧ (z.2.1 k).1 = own ∧ ∃ ty, parseFieldDescriptor (z.2.1 k).2.2.1 = some ty ∧ narrow ty (.ref q) = .ref q ∧ Jvm.fits ty (.ref q) = true) (hdg : decode cc pc = .ok (.putfield idx, 3)) (hw : ws.set q0 (a, .inr (ci, fs.set k (.ref q))) = ws1)
    (kk : ∀ (H1 : Heap) (locs1 : List Loc), va_P D vwCl ws1 H1 → va_D A ws1 → va_S A s.heap H1 locs1 → W p l e R s m args below meth c H1 locs1 cells slots Q (F0 m (pc + 3) ls rest)) : W p l e R s m args below meth c H locs cells slots Q (F0 m pc ls (.ref q :: .ref a :: rest)) := by
  obtain ⟨hx, hb, hml, -, -, hown, hts, hK, hA, hE⟩ := X
  subst hw
  have hlen : k < fs.length := (List.getElem?_eq_some_iff.mp hv).1
  obtain ⟨C, T, N, ty0, hci, hk, hin9, hl, hty, hnm, hfin⟩ := hF
  obtain ⟨z, hz1, hz2, ty, hd, hn, hf⟩ := ht
  cases hci.symm.trans hz1
  rcases hl with hl | ⟨host, hl⟩
  · exact va_putF hx hb hts hin9 ty0 hty hnm hown hK hP hD hS q0 he hci k hk (hts _ hl) (fun _ h => h) hfin hin hz2 hd hn hf hlen hdg kk
  · exfalso
    revert hl
    have h9 : ∀ w ∈ nwF, w.1 ≠ w.2.2.1 := by decide +kernel
    exact fun hl => h9 _ hl hz2.symm
theorem cbehind {a : Array Value} {rest st0 : List Value} {mc ms : Nat} {ls : Array Slot} {wr wc : va_W} {post : va_W → Prop}
    (hr : va_Run p l e R s m args below meth c H locs cells slots mc ms (F0 m pc ls st0) rest (fun st oc t => oc = .returned none ∧ ∃ w1, post w1 ∧ va_P D vwCl w1 t.heap ∧ va_D (va_A wc H.size) w1 ∧ va_F (va_A wc H.size) st t) (va_A wc H.size))
    (hA : ∀ q : Nat, s.heap.size ≤ q → A q) (hP : va_P D vwCl (wr ++ wc) H) (hD : va_D A (wr ++ wc)) (hS : va_S A s.heap H locs)
    (kk : ∀ (w1 : va_W) (H1 : Heap) (locs1 : List Loc), post w1 → va_P D vwCl (wr ++ w1) H1 → va_D A (wr ++ w1) → va_S A s.heap H1 locs1 → W p l e R s m args below meth c H1 locs1 (cells + mc) (slots + ms) Q (F0 m (pc + 3) ls rest)) : W p l e R s m args below meth c H locs cells slots Q (F0 m pc ls st0) := by
  have hAm : ∀ q ∈ wr ++ wc, A q.1 := fun q hq => by
    obtain ⟨k, hk⟩ := List.getElem?_of_mem hq
    exact hD.2 k q hk
  have hF : ∀ q, va_A wc H.size q → A q := fun q h => by
    rcases A_mem.mp h with ⟨z, hz, e9⟩ | h
    · rw [← e9]; exact hAm z (List.mem_append_right _ hz)
    · exact hA q (Nat.le_trans hS.1 h)
  have hnd := D_nodup hD
  rw [List.map_append, List.nodup_append] at hnd
  intro T hT X
  obtain ⟨v, st₀, t, T', L, h0, X', hL, e1, e2, ⟨hv, w1, hp, hP1, hD1, hz, hk⟩, st⟩ := hr T hT X
  cases hv
  rw [h0] at hz hk
  have hk' : ∀ q : Nat, q < H.size → ¬ va_A wc H.size q → T'.heap[q]? = H[q]? := fun q h1 h2 => by rw [e1]; exact hk q h1 h2
  rw [← e1] at hP1
  have hout : ∀ q ∈ wr, q.1 < H.size ∧ ¬ va_A wc H.size q.1 := fun q hq => by
    have hl := (P_mem.mp hP q (List.mem_append_left _ hq)).lt
    refine ⟨hl, fun h3 => ?_⟩
    rcases A_mem.mp h3 with ⟨z, hz, e9⟩ | h4
    · exact hnd.2.2 q.1 (List.mem_map.mpr ⟨q, hq, rfl⟩) z.1 (List.mem_map.mpr ⟨z, hz, rfl⟩) e9.symm
    · omega
  have hA1 : ∀ q ∈ w1, va_A wc H.size q.1 := fun q hq => by
    obtain ⟨k, hk⟩ := List.getElem?_of_mem hq
    exact hD1.2 k q hk
  have hP2 : va_P D vwCl (wr ++ w1) T'.heap := P_mem.mpr fun q hq => by
    rcases List.mem_append.mp hq with h | h
    · exact (P_mem.mp hP q (List.mem_append_left _ h)).kept (hk' q.1 (hout q h).1 (hout q h).2)
    · exact P_mem.mp hP1 q h
  have hD2 : va_D A (wr ++ w1) := D_of (by
    rw [List.map_append, List.nodup_append]
    refine ⟨hnd.1, D_nodup hD1, fun a ha b hb hab => ?_⟩
    obtain ⟨q, hq, rfl⟩ := List.mem_map.mp ha
    obtain ⟨z, hz, rfl⟩ := List.mem_map.mp hb
    exact (hout q hq).2 (by rw [hab]; exact hA1 z hz)) (fun q hq => by
    rcases List.mem_append.mp hq with h | h
    · exact hAm q (List.mem_append_left _ h)
    · exact hF _ (hA1 q h))
  have hS2 : va_S A s.heap T'.heap (locs ++ L) := ⟨Nat.le_trans hS.1 (by rw [e1]; exact hz), fun q h1 h2 => by
      rw [hk' q (Nat.lt_of_lt_of_le h1 hS.1) (fun z => h2 (hF q z))]; exact hS.2.1 q h1 h2, fun q hq => by
      rcases List.mem_append.mp hq with h | h
      · exact hS.2.2 q h
      · exact hF _ (hL q h)⟩
  obtain ⟨t2, a1, b1⟩ := kk w1 T'.heap (locs ++ L) hp hP2 hD2 hS2 T' rfl X'
  exact ⟨t2, st t2 a1, b1⟩
theorem ccallI (X : Cx p s m args meth c own cc nL ret0 D g x A) {y : MethodName} {cy : ByteArray} {nLy fry loy mcy msy idx b : Nat} {wr wc : va_W} {post : va_W → Prop}
    (hC : CnC D g x l y cy nLy fry loy mcy msy b wc post) (hM : MwI y cy nLy) (hlink : Cond.methodLink own idx y ∈ wG ∨ ∃ host : String, (own, idx, y, host) ∈ nwM) (hR : fry + 1 ≤ R.frames ∧ 8 + (nLy + 11) + loy ≤ R.locals)
    (hws : ws = wr ++ wc) (hP : va_P D vwCl ws H) (hD : va_D A ws) (hS : va_S A s.heap H locs) (hls : ls.size = nL) (hrm : (rest.map fun v => v.category).sum ≤ 8) (hdg : decode cc pc = .ok (.invokespecial idx, 3)) (hcs : cells + mcy ≤ R.cells ∧ slots + msy ≤ R.slots)
    (kk : ∀ (w1 : va_W) (H1 : Heap) (locs1 : List Loc), post w1 → va_P D vwCl (wr ++ w1) H1 → va_D A (wr ++ w1) → va_S A s.heap H1 locs1 → W p l e R s m args below meth c H1 locs1 (cells + mcy) (slots + msy) Q (F0 m (pc + 3) ls rest)) : W p l e R s m args below meth c H locs cells slots Q (F0 m pc ls (.ref b :: rest)) := by
  obtain ⟨hx, hb, hml, -, -, hown, hts, hK, hA, hE⟩ := X
  subst hws
  have hnd := D_nodup hD
  rw [List.map_append, List.nodup_append] at hnd
  have hPc : va_P D vwCl wc H := P_mem.mpr fun q hq => P_mem.mp hP q (List.mem_append_right _ hq)
  have hDc : va_D (fun _ => True) wc := D_of hnd.2.1 (fun _ _ => trivial)
  have hF : ∀ q, va_A wc H.size q → A q := fun q h => by
    rcases A_mem.mp h with ⟨z, hz, e9⟩ | h
    · rw [← e9]
      obtain ⟨k, hk⟩ := List.getElem?_of_mem (List.mem_append_right wr hz)
      exact hD.2 k z hk
    · exact hA q (Nat.le_trans hS.1 h)
  have hEc : Ext x (va_A wc H.size) s H := (hE.kept (fun a h1 h2 => hS.2.1 a h1 h2)).narrow hF
  have hpre : PreS s H (va_Pc [.ref b] (fun U => U.heap.size = H.size ∧ va_P D vwCl wc U.heap ∧ va_K D vwCl (tyA g) U ∧ va_D (fun _ => True) wc ∧ Ext x (va_A wc H.size) U U.heap)) (.ref b :: []) := ⟨fun a U g9 mk q => by
    obtain ⟨q1, q2, q3, q4, q5, q6⟩ := q
    exact ⟨q1, q2, q3, va_K.moved (u := U) (U := U.calling g9 mk a) (Vm.Alike.refl U.vm) q4, q5, Ext.same (s := U) (U := U.calling g9 mk a) rfl q6⟩, fun U hU hW => ⟨rfl, by rw [hU], by rw [hU]; exact hPc, va_K.moved hW.alike hK, hDc, by rw [hU]; exact hEc.warm hW⟩⟩
  have hsig : ∀ sig, parseMethodDescriptor y.desc = some sig → 0 = sig.parameters.length := fun sig h => by
    have h2 := hM.2.2.2.2.2.2
    rw [h] at h2
    exact (Option.some.inj h2).symm
  rcases hlink with hlink | ⟨host, hlink⟩
  · exact cbehind (a := args) (st0 := .ref b :: rest) (va_runI (As := []) (rest := rest) (n := 0) ⟨hx, hb, hml, hown, hts⟩ (hC H.size) ⟨⟨rfl, rfl, hR.1, hR.2, pay_in hts (mws_good hM.2.2.2.1), List.mem_cons_self, hts _ hM.2.2.2.1, hts _ hM.2.2.1, ⟨hM.2.2.2.2.1, hM.2.2.2.2.2.1⟩, hsig, hts _ hlink⟩, hM.1, hts _ hM.2.1⟩ hpre rfl rfl hls rfl (lv_room hrm) hdg hcs) hA hP hD hS kk
  · exact cbehind (a := args) (st0 := .ref b :: rest) (va_runIN (As := []) (rest := rest) (n := 0) (host := host) ⟨hx, hb, hml, hown, hts⟩ (hC H.size) ⟨va_cnB 0 hts (mws_good hM.2.2.2.1) rfl rfl rfl (hE.2.1 _ hlink) (hts _ hM.2.2.1) hM.2.2.2.2 hR, hM.1, hts _ hM.2.1⟩ hpre rfl rfl hls rfl (lv_room hrm) hdg hcs) hA hP hD hS kk
end MAK
