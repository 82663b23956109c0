/-! ===== the law's own methods round the class' methods that throw ===== -/
theorem mrg_ones : ∀ (X X1 C : va_W), X1.map (fun q => q.1) = X.map (fun q => q.1) → mrgB (List.replicate X.length true ++ List.replicate C.length false) (X ++ C) X X1 (X1 ++ C) := by
  intro X
  induction X with
  | nil =>
    intro X1 C h
    cases X1 with
    | cons => simp at h
    | nil =>
      induction C with
      | nil => exact trivial
      | cons c C ih => exact ⟨rfl, ih⟩
  | cons q X ih =>
    intro X1 C h
    cases X1 with
    | nil => simp at h
    | cons q1 X1 =>
      simp only [List.map_cons, List.cons.injEq] at h
      exact ⟨rfl, rfl, h.1, ih X1 C h.2⟩
theorem mrg_left : ∀ (A : va_W) {bs : List Bool} {ws wc wc1 ws1 : va_W}, mrgB bs ws wc wc1 ws1 → mrgB (List.replicate A.length false ++ bs) (A ++ ws) wc wc1 (A ++ ws1) := by
  intro A
  induction A with
  | nil => intro bs ws wc wc1 ws1 h; exact h
  | cons q A ih => intro bs ws wc wc1 ws1 h; exact mrgF rfl (ih h)
theorem mrg_both : ∀ (X X1 : va_W) {bs : List Bool} {ws wc wc1 ws1 : va_W}, X1.map (fun q => q.1) = X.map (fun q => q.1) → mrgB bs ws wc wc1 ws1 → mrgB (List.replicate X.length true ++ bs) (X ++ ws) (X ++ wc) (X1 ++ wc1) (X1 ++ ws1) := by
  intro X
  induction X with
  | nil =>
    intro X1 bs ws wc wc1 ws1 h hm
    cases X1 with
    | cons => simp at h
    | nil => exact hm
  | cons q X ih =>
    intro X1 bs ws wc wc1 ws1 h hm
    cases X1 with
    | nil => simp at h
    | cons q1 X1 =>
      simp only [List.map_cons, List.cons.injEq] at h
      exact ⟨rfl, rfl, h.1, ih X1 h.2 hm⟩
/-- a method with a table of its own, that returns; it may have made exceptions -/
def CnM (D : va_G) (g : Nat → ClassId) (x : Xd) (l : Launch) (y : MethodName) (cc : ByteArray) (nL : Nat) (hh : List (Nat × Nat × Nat × Nat)) (fr lo mc : Nat) (av : List Value) (w0 w1 : va_W) (r : Option Value) : Prop :=
  ∀ sz : Nat, Met l y (.codeWith y cc nL (some .boolean) hh :: wG) (rmX fr lo mc) (va_Pc av (fun U => U.heap.size = sz ∧ va_P D vwCl w0 U.heap ∧ va_K D vwCl (tyA g) U ∧ va_D (fun _ => True) w0 ∧ Ext x (va_A w0 sz) U U.heap))
    (fun _ st oc t => oc = .returned r ∧ va_P D vwCl w1 t.heap ∧ va_F (va_A w0 sz) st t) mc (6 * mc) (va_A w0 sz)
theorem CnM.ext {D : va_G} {g : Nat → ClassId} {x : Xd} {l : Launch} {y : MethodName} {cc : ByteArray} {nL : Nat} {hh : List (Nat × Nat × Nat × Nat)} {fr lo mc : Nat} {av : List Value} {wc wc1 ws ws1 : va_W} {r : Option Value} (h : CnM D g x l y cc nL hh fr lo mc av wc wc1 r) (bs : List Bool) (hm : mrgB bs ws wc wc1 ws1) : CnM D g x l y cc nL hh fr lo mc av ws ws1 r := by
  intro sz
  refine Jvm.Free.MetFree.mono (h sz) (fun a s hp => ⟨hp.1, mrg_pre hm hp.2⟩) (fun _ _ _ _ _ h => h) (fun a s o t hp hq => ?_)
  obtain ⟨⟨h1, h2, h3⟩, L, h4, h5⟩ := hq
  obtain ⟨p1, p2⟩ := mrg_post hm hp.2 h2 h3
  exact ⟨⟨h1, p1, p2⟩, L, h4, fun q hq => mrg_A hm (h5 q hq)⟩
theorem CnM.mk {D : va_G} {g : Nat → ClassId} {x : Xd} {l : Launch} {y : MethodName} {cc : ByteArray} {nL : Nat} {hh : List (Nat × Nat × Nat × Nat)} {fr lo mc : Nat} {av : List Value} {w0 w1 : va_W} {v : Int32} (hv : narrow .boolean (.int v) = .int v) (hy : plainFor y = true) (hn : (lg_sl av).length ≤ nL)
    (body : ∀ (p : Program) (e : Env) (s : State) (m : MethodId) (args : Array Value) (below : List Frame) (meth : Method) (c : Code) (A : Nat → Prop) (Q : State → Prop) (ls : Array Slot), Cx p s m args meth c y.cls cc nL (some .boolean) D g x A → c.exceptionTable.toList = tableOf hh → va_D A w0 → va_P D vwCl w0 s.heap → va_S A s.heap s.heap [] →
      (∀ (H : Heap) (locs : List Loc) (cells slots pc : Nat) (ls : Array Slot), cells ≤ mc → slots ≤ 6 * mc → va_P D vwCl w1 H → va_S A s.heap H locs → decode cc pc = .ok (.ireturn, 1) → W p l e (rmX fr lo mc) s m args below meth c H locs cells slots Q (F0 m pc ls [.int v])) → lv_has ls nL (lv_args 0 av) → W p l e (rmX fr lo mc) s m args below meth c s.heap [] 0 0 Q (F0 m 0 ls [])) :
    CnM D g x l y cc nL hh fr lo mc av w0 w1 (some (.int v)) := by
  intro sz
  refine MetFree.of_bodySF (code := cc) (maxLocals := nL) (ret := some .boolean) hy (fun args s m h hn => ?_) (fun p e s m args below meth c s₁ B hml hP _ => ?_)
  · obtain ⟨m9, meth, c, hn9, h1, h2, h3, h4, -, h5, h6, -⟩ := Cond.codeWith_spec (atoms_spec (ws := .codeWith y cc nL (some .boolean) hh :: wG) h _ List.mem_cons_self)
    cases hn.symm.trans hn9
    exact ⟨meth, c, h1, h2, h3, h4, h5, h6⟩
  · obtain ⟨rfl, hsz, hP, hK, hD0, hE0⟩ := hP
    subst hsz
    have hall := atoms_spec (ws := .codeWith y cc nL (some .boolean) hh :: wG) B.pre
    have hts : ∀ w ∈ wG, w.before av.toArray s = true := fun w h => hall w (List.mem_cons_of_mem _ h)
    have hown : s.vm.findClass y.cls = some m.cls := findClass_of_methodNamed B.named
    have hl := lv_entry av (n := nL) hn
    have hb := body p e s m av.toArray below meth c (va_A w0 s.heap.size) (MQ below (fun _ st oc t => oc = .returned (some (.int v)) ∧ va_P D vwCl w1 t.heap ∧ va_F (va_A w0 s.heap.size) st t) av.toArray s mc (6 * mc) (va_A w0 s.heap.size)) _ ⟨B.exec, B.bytes, hml, B.returns, B.notSynchronized, hown, hts, hK, fun q h => Or.inr h, hE0⟩ (vx_table (x := y) B (hall _ List.mem_cons_self)) hD0.self hP va_S.rf
      (fun H locs cells slots pc ls hc hs hP hS hdg => W.widen hc hs (W.zret B.exec B.bytes B.returns hv (fun t ht hW => ⟨rfl, by rw [ht]; exact hP, hS.F ht⟩) hS.2.2 hdg B.notSynchronized)) hl
    rw [← lg_entry_eq] at hb
    obtain ⟨t, a1, o, b1, b2, b3⟩ := hb s₁ (by rw [B.state]; rfl) (Stand.of_body B)
    exact ⟨t, o, a1, b1, b2, ⟨b3.1, b3.2⟩⟩
section WHOLEC
variable {p : Program} {l : Launch} {e : Env} {R : Room} {s : State} {m : MethodId} {args : Array Value} {below : List Frame} {meth : Method} {c : Code} {H : Heap} {locs : List Loc} {cells slots : Nat} {Q : State → Prop}
variable {D : va_G} {g : Nat → ClassId} {x : Xd} {A : Nat → Prop} {own : String} {cc : ByteArray} {nL : Nat} {ret0 : Option FieldType}
theorem whole_F {ws : va_W} (hA : ∀ q : Nat, s.heap.size ≤ q → A q) (hD : va_D A ws) (hS : va_S A s.heap H locs) : ∀ q, va_A ws H.size q → A q := fun q h => by
  rcases A_mem.mp h with ⟨z, hz, e9⟩ | h
  · rw [← e9]
    obtain ⟨k, hk⟩ := List.getElem?_of_mem hz
    exact hD.2 k z hk
  · exact hA q (Nat.le_trans hS.1 h)
theorem whole_S {st₀ t T' : State} {L : List Loc} {ws : va_W} (hF : ∀ q, va_A ws H.size q → A q) (hS : va_S A s.heap H locs) (h0 : st₀.heap = H) (e1 : T'.heap = t.heap) (hL : ∀ q ∈ L, va_A ws H.size q.base) (hf : va_F (va_A ws H.size) st₀ t) : va_S A s.heap T'.heap (locs ++ L) := by
  obtain ⟨hz, hk⟩ := hf
  rw [h0] at hz hk
  exact ⟨Nat.le_trans hS.1 (by rw [e1]; exact hz), fun q h1 h2 => by
      rw [e1, hk q (Nat.lt_of_lt_of_le h1 hS.1) (fun z => h2 (hF q z))]; exact hS.2.1 q h1 h2, fun q hq => by
      rcases List.mem_append.mp hq with h | h
      · exact hS.2.2 q h
      · exact hF _ (hL q h)⟩
/-- a call that takes the whole world, and returns -/
theorem wbehind {a : Array Value} {rest st1 : List Value} {pc mc : Nat} {ls : Array Slot} {st0 : List Value} {ws ws1 : va_W} {r : Option Value}
    (hr : va_Run p l e R s m args below meth c H locs cells slots mc (6 * mc) (F0 m pc ls st0) rest (fun st oc t => oc = .returned r ∧ va_P D vwCl ws1 t.heap ∧ va_F (va_A ws H.size) st t) (va_A ws H.size))
    (hA : ∀ q : Nat, s.heap.size ≤ q → A q) (hD : va_D A ws) (hS : va_S A s.heap H locs) (hadr : ws1.map (fun q => q.1) = ws.map (fun q => q.1)) (hst : r.toList ++ rest = st1)
    (kk : ∀ (H1 : Heap) (locs1 : List Loc), va_P D vwCl ws1 H1 → va_D A ws1 → va_S A s.heap H1 locs1 → W p l e R s m args below meth c H1 locs1 (cells + mc) (slots + 6 * mc) Q (F0 m (pc + 3) ls st1)) : W p l e R s m args below meth c H locs cells slots Q (F0 m pc ls st0) := by
  intro T hT X
  obtain ⟨v, st₀, t, T', L, h0, X', hL, e1, e2, ⟨hv, hP1, hf⟩, st⟩ := hr T hT X
  cases hv
  obtain ⟨t2, a1, b1⟩ := kk T'.heap (locs ++ L) (by rw [e1]; exact hP1) (D_adr hadr hD) (whole_S (whole_F hA hD hS) hS h0 e1 hL hf) T' rfl X'
  subst hst
  exact ⟨t2, st t2 a1, b1⟩
theorem xcallA (X : Cx p s m args meth c own cc nL ret0 D g x A) {y : MethodName} {cy : ByteArray} {nLy fry loy mcy n idx tag : Nat} {rety : Option FieldType} {b : Nat} {As rest st0 st1 : List Value} {ws ws1 : va_W} {r : Option Value}
    (hC : CnX D g x l y cy nLy rety fry loy mcy (.ref b :: As) ws ws1 tag r) (hM : MwV y cy nLy rety n) (hlink : Cond.methodLink own idx y ∈ wG) (hR : fry + 1 ≤ R.frames ∧ 8 + (nLy + 11) + loy ≤ R.locals)
    (hP : va_P D vwCl ws H) (hD : va_D A ws) (hS : va_S A s.heap H locs) (hadr : ws1.map (fun q => q.1) = ws.map (fun q => q.1)) (q0 : Nat) {ci N : Nat} {T : u_T} {fs : List Value} (hq0 : ws[q0]? = some (b, .inr (ci, fs))) (hci : vwCl[ci]? = some (y.cls, T, N))
    {pc : Nat} {ls : Array Slot} (hn : As.length = n) (hls : ls.size = nL) (hst : st0 = As.reverse ++ .ref b :: rest) (hrm : (rest.map fun v => v.category).sum ≤ 8) (hdg : decode cc pc = .ok (.invokevirtual idx, 3)) (hcs : cells + mcy ≤ R.cells ∧ slots + 6 * mcy ≤ R.slots)
    (hst1 : r.toList ++ rest = st1)
    (kk : tag = 0 → ∀ (H1 : Heap) (locs1 : List Loc), va_P D vwCl ws1 H1 → va_D A ws1 → va_S A s.heap H1 locs1 → W p l e R s m args below meth c H1 locs1 (cells + mcy) (slots + 6 * mcy) Q (F0 m (pc + 3) ls st1))
    (kx : tag ≠ 0 → ∀ (H1 : Heap) (locs1 : List Loc) (q : Addr) (ce : Cell), va_P D vwCl ws1 H1 → va_D A ws1 → va_S A s.heap H1 locs1 → H1[q]? = some ce → ce.vm = .none → s.vm.findClass (exN tag) = some ce.cls → vx_W p l e R s m args below meth c H1 locs1 (cells + mcy) (slots + 6 * mcy) Q (F0 m pc ls rest) q) : W p l e R s m args below meth c H locs cells slots Q (F0 m pc ls st0) := by
  obtain ⟨hx, hb, hml, -, -, hown, hts, hK, hA, hE⟩ := X
  have hF := whole_F hA hD hS
  have hEc : Ext x (va_A ws H.size) s H := (hE.kept (fun a h1 h2 => hS.2.1 a h1 h2)).narrow hF
  have hr := vx_runV (As := As) (rest := rest) (n := n) (C := y.cls) (p := p) (l := l) (e := e) (R := R) (s := s) (m := m) (args := args) (below := below) (meth := meth) (c := c) (H := H) (locs := locs) (cells := cells) (slots := slots) (g := F0 m pc ls st0) ⟨hx, hb, hml, hown, hts⟩ (hC H.size) (cwV n hts (mwV_good hM hlink) rfl rfl rfl ⟨rfl, hM.2.2.2.2⟩ hR) ⟨fun a U g9 mk q => by
    obtain ⟨q1, q2, q3, q4, q5, q6⟩ := q
    exact ⟨q1, q2, q3, va_K.moved (u := U) (U := U.calling g9 mk a) (Vm.Alike.refl U.vm) q4, q5, Ext.same (s := U) (U := U.calling g9 mk a) rfl q6⟩, va_recv hK hP hci hq0, fun U hU hW => ⟨rfl, by rw [hU], by rw [hU]; exact hP, va_K.moved hW.alike hK, hD.weaken (fun _ _ _ _ => trivial), by rw [hU]; exact hEc.warm hW⟩⟩ rfl hn hls hst (lv_room hrm) hdg hcs
  intro T0 hT XX
  rcases hr T0 hT XX with ⟨v, st₀, t, T', L, h0, X', hL, e1, e2, ⟨ht, hv, hP1, hf⟩, st⟩ | ⟨q, st₀, t, T', L, E, ce, h0, X', hL, e1, e2, ⟨ht, rfl, hP1, hf⟩, hq, hqv, hcl, st⟩
  · cases hv
    obtain ⟨t2, a1, b1⟩ := kk ht T'.heap (locs ++ L) (by rw [e1]; exact hP1) (D_adr hadr hD) (whole_S hF hS h0 e1 hL hf) T' rfl X'
    subst hst1
    exact ⟨t2, st t2 a1, b1⟩
  · obtain ⟨t2, a1, b1⟩ := kx ht T'.heap (locs ++ L) q ce (by rw [e1]; exact hP1) (D_adr hadr hD) (whole_S hF hS h0 e1 hL hf) (by rw [e1]; exact hq) hqv hcl T' rfl X'
    exact ⟨t2, st.trans a1, b1⟩
theorem mcallA (X : Cx p s m args meth c own cc nL ret0 D g x A) {y : MethodName} {cy : ByteArray} {nLy fry loy n idx : Nat} {rety : Option FieldType} {b : Nat} {As rest st0 st1 : List Value} {ws ws1 : va_W} {r : Option Value}
    (hC : Cn D g x l y cy nLy rety fry loy (.ref b :: As) ws ws1 r) (hM : MwV y cy nLy rety n) (hlink : Cond.methodLink own idx y ∈ wG) (hR : fry + 1 ≤ R.frames ∧ 8 + (nLy + 11) + loy ≤ R.locals)
    (hP : va_P D vwCl ws H) (hD : va_D A ws) (hS : va_S A s.heap H locs) (hadr : ws1.map (fun q => q.1) = ws.map (fun q => q.1)) (q0 : Nat) {ci N : Nat} {T : u_T} {fs : List Value} (hq0 : ws[q0]? = some (b, .inr (ci, fs))) (hci : vwCl[ci]? = some (y.cls, T, N))
    {pc : Nat} {ls : Array Slot} (hn : As.length = n) (hls : ls.size = nL) (hst : st0 = As.reverse ++ .ref b :: rest) (hrm : (rest.map fun v => v.category).sum ≤ 8) (hdg : decode cc pc = .ok (.invokevirtual idx, 3)) (hcs : cells + 0 ≤ R.cells ∧ slots + 0 ≤ R.slots)
    (hst1 : r.toList ++ rest = st1)
    (kk : ∀ (H1 : Heap) (locs1 : List Loc), va_P D vwCl ws1 H1 → va_D A ws1 → va_S A s.heap H1 locs1 → W p l e R s m args below meth c H1 locs1 cells slots Q (F0 m (pc + 3) ls st1)) : W p l e R s m args below meth c H locs cells slots Q (F0 m pc ls st0) := by
  obtain ⟨hx, hb, hml, -, -, hown, hts, hK, hA, hE⟩ := X
  have hEc : Ext x (va_A ws H.size) s H := (hE.kept (fun a h1 h2 => hS.2.1 a h1 h2)).narrow (whole_F hA hD hS)
  exact wbehind (a := args) (mc := 0) (va_runV (As := As) (rest := rest) (n := n) (C := y.cls) ⟨hx, hb, hml, hown, hts⟩ (hC H.size) (cwV n hts (mwV_good hM hlink) rfl rfl rfl ⟨rfl, hM.2.2.2.2⟩ hR) ⟨fun a U g9 mk q => by
    obtain ⟨q1, q2, q3, q4, q5, q6⟩ := q
    exact ⟨q1, q2, q3, va_K.moved (u := U) (U := U.calling g9 mk a) (Vm.Alike.refl U.vm) q4, q5, Ext.same (s := U) (U := U.calling g9 mk a) rfl q6⟩, va_recv hK hP hci hq0, fun U hU hW => ⟨rfl, by rw [hU], by rw [hU]; exact hP, va_K.moved hW.alike hK, hD.weaken (fun _ _ _ _ => trivial), by rw [hU]; exact hEc.warm hW⟩⟩ rfl hn hls hst (lv_room hrm) hdg hcs) hA hD hS hadr hst1 kk
/-- what the tables say of a method with a table of its own -/
def MwH (y : MethodName) (cy : ByteArray) (nLy : Nat) (hh : List (Nat × Nat × Nat × Nat)) (n : Nat) : Prop := Cond.static y ∈ wG ∧ Cond.initialized y.cls ∈ wG ∧ Cond.codeWith y cy nLy (some .boolean) hh ∈ wG ∧ (y.cls ≠ "java/lang/invoke/MethodHandle" ∧ y.cls ≠ "java/lang/invoke/VarHandle" ∧ (parseMethodDescriptor y.desc).map (fun d => d.parameters.length) = some n)
theorem hcallA (X : Cx p s m args meth c own cc nL ret0 D g x A) {y : MethodName} {cy : ByteArray} {nLy fry loy mcy n idx : Nat} {hh : List (Nat × Nat × Nat × Nat)} {As rest st0 st1 : List Value} {ws ws1 : va_W} {r : Option Value}
    (hC : CnM D g x l y cy nLy hh fry loy mcy As ws ws1 r) (hM : MwH y cy nLy hh n) (hlink : Cond.methodLink own idx y ∈ wG) (hR : fry + 1 ≤ R.frames ∧ 8 + (nLy + 11) + loy ≤ R.locals)
    (hP : va_P D vwCl ws H) (hD : va_D A ws) (hS : va_S A s.heap H locs) (hadr : ws1.map (fun q => q.1) = ws.map (fun q => q.1))
    {pc : Nat} {ls : Array Slot} (hn : As.length = n) (hls : ls.size = nL) (hst : st0 = As.reverse ++ rest) (hrm : (rest.map fun v => v.category).sum ≤ 8) (hdg : decode cc pc = .ok (.invokestatic idx, 3)) (hcs : cells + mcy ≤ R.cells ∧ slots + 6 * mcy ≤ R.slots)
    (hst1 : r.toList ++ rest = st1)
    (kk : ∀ (H1 : Heap) (locs1 : List Loc), va_P D vwCl ws1 H1 → va_D A ws1 → va_S A s.heap H1 locs1 → W p l e R s m args below meth c H1 locs1 (cells + mcy) (slots + 6 * mcy) Q (F0 m (pc + 3) ls st1)) : W p l e R s m args below meth c H locs cells slots Q (F0 m pc ls st0) := by
  obtain ⟨hx, hb, hml, -, -, hown, hts, hK, hA, hE⟩ := X
  have hEc : Ext x (va_A ws H.size) s H := (hE.kept (fun a h1 h2 => hS.2.1 a h1 h2)).narrow (whole_F hA hD hS)
  have hgd : ∀ w ∈ (Cond.codeWith y cy nLy (some .boolean) hh :: wG), w ∈ wG ∧ ((w.onTables && w.keeps) = true ∨ ∃ ty, w = .arrayClass ty) := fun w hw => (List.mem_cons.mp hw).elim (fun e => by rw [e]; exact ⟨hM.2.2.1, wG_good hM.2.2.1⟩) (fun h => ⟨h, wG_good h⟩)
  exact wbehind (a := args) (vx_runSW (As := As) (rest := rest) (n := n) ⟨hx, hb, hml, hown, hts⟩ (hC H.size) ⟨⟨rfl, rfl, hR.1, hR.2, pay_in hts hgd, List.mem_cons_self⟩, hts _ hM.2.2.1, hts _ hM.2.1, ⟨hM.2.2.2.1, hM.2.2.2.2.1⟩, fun sig h => by
    have h2 := hM.2.2.2.2.2
    rw [h] at h2
    exact (Option.some.inj h2).symm, hts _ hlink, hts _ hM.1⟩ ⟨fun a U g9 mk q => by
    obtain ⟨q1, q2, q3, q4, q5, q6⟩ := q
    exact ⟨q1, q2, q3, va_K.moved (u := U) (U := U.calling g9 mk a) (Vm.Alike.refl U.vm) q4, q5, Ext.same (s := U) (U := U.calling g9 mk a) rfl q6⟩, fun U hU hW => ⟨rfl, by rw [hU], by rw [hU]; exact hP, va_K.moved hW.alike hK, hD.weaken (fun _ _ _ _ => trivial), by rw [hU]; exact hEc.warm hW⟩⟩ rfl hn hls hst (lv_room hrm) hdg hcs) hA hD hS hadr hst1 kk
end WHOLEC
