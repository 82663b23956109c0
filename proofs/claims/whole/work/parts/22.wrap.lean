/-! ===== the law's own methods round the class' methods that throw ===== -/
theorem mrg_ones : ∀ (X X1 C : va_W), X1.map (fun q => q.1) = X.map (fun q => q.1) → mrgB (List.replicate X.length true ++ List.replicate C.length false) (X ++ C) X X1 (X1 ++ C) := by
  intro X
  induction X with
  | nil =>
    intro X1 C h
    cases X1 with
    | cons => simp at h
    | nil =>
      induction C with
      | nil => exact trivial
      | cons c C ih => exact ⟨rfl, ih⟩
  | cons q X ih =>
    intro X1 C h
    cases X1 with
    | nil => simp at h
    | cons q1 X1 =>
      simp only [List.map_cons, List.cons.injEq] at h
      exact ⟨rfl, rfl, h.1, ih X1 C h.2⟩
theorem mrg_left : ∀ (A : va_W) {bs : List Bool} {ws wc wc1 ws1 : va_W}, mrgB bs ws wc wc1 ws1 → mrgB (List.replicate A.length false ++ bs) (A ++ ws) wc wc1 (A ++ ws1) := by
  intro A
  induction A with
  | nil => intro bs ws wc wc1 ws1 h; exact h
  | cons q A ih => intro bs ws wc wc1 ws1 h; exact mrgF rfl (ih h)
theorem mrg_both : ∀ (X X1 : va_W) {bs : List Bool} {ws wc wc1 ws1 : va_W}, X1.map (fun q => q.1) = X.map (fun q => q.1) → mrgB bs ws wc wc1 ws1 → mrgB (List.replicate X.length true ++ bs) (X ++ ws) (X ++ wc) (X1 ++ wc1) (X1 ++ ws1) := by
  intro X
  induction X with
  | nil =>
    intro X1 bs ws wc wc1 ws1 h hm
    cases X1 with
    | cons => simp at h
    | nil => exact hm
  | cons q X ih =>
    intro X1 bs ws wc wc1 ws1 h hm
    cases X1 with
    | nil => simp at h
    | cons q1 X1 =>
      simp only [List.map_cons, List.cons.injEq] at h
      exact ⟨rfl, rfl, h.1, ih X1 h.2 hm⟩
theorem w6_adr (g : Nat → ClassId) (a : Nat → Nat) (e : Nat → Nat → Nat) (σ σ' : S6) : (w6 g a e σ').map (fun q => q.1) = (w6 g a e σ).map (fun q => q.1) := rfl
theorem w7_adr (g : Nat → ClassId) (a : Nat → Nat) (σ σ' : S7) : (w7 g a σ').map (fun q => q.1) = (w7 g a σ).map (fun q => q.1) := rfl
abbrev cOut (g : Nat → ClassId) (q : Nat) (o : Nat → Int64) : Nat × va_E := (q, .inl (g 1, 1, .inr (.inl o)))
abbrev cOutD (g : Nat → ClassId) (q : Nat) (o : Nat → UInt64) : Nat × va_E := (q, .inl (g 3, 1, .inr (.inr (.inr (.inl o)))))
/-- a method with a table of its own, that returns; it may have made exceptions -/
def CnM (D : va_G) (g : Nat → ClassId) (x : Xd) (l : Launch) (y : MethodName) (cc : ByteArray) (nL : Nat) (hh : List (Nat × Nat × Nat × Nat)) (fr lo mc : Nat) (av : List Value) (w0 w1 : va_W) (r : Option Value) : Prop :=
  ∀ sz : Nat, Met l y (.codeWith y cc nL (some .int) hh :: wG) (rmX fr lo mc) (va_Pc av (fun U => U.heap.size = sz ∧ va_P D vwCl w0 U.heap ∧ va_K D vwCl (tyA g) U ∧ va_D (fun _ => True) w0 ∧ Ext x (va_A w0 sz) U U.heap))
    (fun _ st oc t => oc = .returned r ∧ va_P D vwCl w1 t.heap ∧ va_F (va_A w0 sz) st t) mc (6 * mc) (va_A w0 sz)
theorem CnM.ext {D : va_G} {g : Nat → ClassId} {x : Xd} {l : Launch} {y : MethodName} {cc : ByteArray} {nL : Nat} {hh : List (Nat × Nat × Nat × Nat)} {fr lo mc : Nat} {av : List Value} {wc wc1 ws ws1 : va_W} {r : Option Value} (h : CnM D g x l y cc nL hh fr lo mc av wc wc1 r) (bs : List Bool) (hm : mrgB bs ws wc wc1 ws1) : CnM D g x l y cc nL hh fr lo mc av ws ws1 r := by
  intro sz
  refine Jvm.Free.MetFree.mono (h sz) (fun a s hp => ⟨hp.1, mrg_pre hm hp.2⟩) (fun _ _ _ _ _ h => h) (fun a s o t hp hq => ?_)
  obtain ⟨⟨h1, h2, h3⟩, L, h4, h5⟩ := hq
  obtain ⟨p1, p2⟩ := mrg_post hm hp.2 h2 h3
  exact ⟨⟨h1, p1, p2⟩, L, h4, fun q hq => mrg_A hm (h5 q hq)⟩
theorem CnM.mk {D : va_G} {g : Nat → ClassId} {x : Xd} {l : Launch} {y : MethodName} {cc : ByteArray} {nL : Nat} {hh : List (Nat × Nat × Nat × Nat)} {fr lo mc : Nat} {av : List Value} {w0 w1 : va_W} {v : Int32} (hy : plainFor y = true) (hn : (lg_sl av).length ≤ nL)
    (body : ∀ (p : Program) (e : Env) (s : State) (m : MethodId) (args : Array Value) (below : List Frame) (meth : Method) (c : Code) (A : Nat → Prop) (Q : State → Prop) (ls : Array Slot), Cx p s m args meth c y.cls cc nL (some .int) D g x A → c.exceptionTable.toList = tableOf hh → va_D A w0 → va_P D vwCl w0 s.heap → va_S A s.heap s.heap [] →
      (∀ (H : Heap) (locs : List Loc) (cells slots pc : Nat) (ls : Array Slot), cells ≤ mc → slots ≤ 6 * mc → va_P D vwCl w1 H → va_S A s.heap H locs → decode cc pc = .ok (.ireturn, 1) → W p l e (rmX fr lo mc) s m args below meth c H locs cells slots Q (F0 m pc ls [.int v])) → lv_has ls nL (lv_args 0 av) → W p l e (rmX fr lo mc) s m args below meth c s.heap [] 0 0 Q (F0 m 0 ls [])) :
    CnM D g x l y cc nL hh fr lo mc av w0 w1 (some (.int v)) := by
  intro sz
  refine MetFree.of_bodySF (code := cc) (maxLocals := nL) (ret := some .int) hy (fun args s m h hn => ?_) (fun p e s m args below meth c s₁ B hml hP _ => ?_)
  · obtain ⟨m9, meth, c, hn9, h1, h2, h3, h4, -, h5, h6, -⟩ := Cond.codeWith_spec (atoms_spec (ws := .codeWith y cc nL (some .int) hh :: wG) h _ List.mem_cons_self)
    cases hn.symm.trans hn9
    exact ⟨meth, c, h1, h2, h3, h4, h5, h6⟩
  · obtain ⟨rfl, hsz, hP, hK, hD0, hE0⟩ := hP
    subst hsz
    have hall := atoms_spec (ws := .codeWith y cc nL (some .int) hh :: wG) B.pre
    have hts : ∀ w ∈ wG, w.before av.toArray s = true := fun w h => hall w (List.mem_cons_of_mem _ h)
    have hown : s.vm.findClass y.cls = some m.cls := findClass_of_methodNamed B.named
    have hl := lv_entry av (n := nL) hn
    have hb := body p e s m av.toArray below meth c (va_A w0 s.heap.size) (MQ below (fun _ st oc t => oc = .returned (some (.int v)) ∧ va_P D vwCl w1 t.heap ∧ va_F (va_A w0 s.heap.size) st t) av.toArray s mc (6 * mc) (va_A w0 s.heap.size)) _ ⟨B.exec, B.bytes, hml, B.returns, B.notSynchronized, hown, hts, hK, fun q h => Or.inr h, hE0⟩ (vx_table (x := y) B (hall _ List.mem_cons_self)) hD0.self hP va_S.rf
      (fun H locs cells slots pc ls hc hs hP hS hdg => W.widen hc hs (W.zret B.exec B.bytes B.returns rfl (fun t ht hW => ⟨rfl, by rw [ht]; exact hP, hS.F ht⟩) hS.2.2 hdg B.notSynchronized)) hl
    rw [← lg_entry_eq] at hb
    obtain ⟨t, a1, o, b1, b2, b3⟩ := hb s₁ (by rw [B.state]; rfl) (Stand.of_body B)
    exact ⟨t, o, a1, b1, b2, ⟨b3.1, b3.2⟩⟩
section WHOLEC
variable {p : Program} {l : Launch} {e : Env} {R : Room} {s : State} {m : MethodId} {args : Array Value} {below : List Frame} {meth : Method} {c : Code} {H : Heap} {locs : List Loc} {cells slots : Nat} {Q : State → Prop}
variable {D : va_G} {g : Nat → ClassId} {x : Xd} {A : Nat → Prop} {own : String} {cc : ByteArray} {nL : Nat} {ret0 : Option FieldType}
theorem whole_F {ws : va_W} (hA : ∀ q : Nat, s.heap.size ≤ q → A q) (hD : va_D A ws) (hS : va_S A s.heap H locs) : ∀ q, va_A ws H.size q → A q := fun q h => by
  rcases A_mem.mp h with ⟨z, hz, e9⟩ | h
  · rw [← e9]
    obtain ⟨k, hk⟩ := List.getElem?_of_mem hz
    exact hD.2 k z hk
  · exact hA q (Nat.le_trans hS.1 h)
theorem whole_S {st₀ t T' : State} {L : List Loc} {ws : va_W} (hF : ∀ q, va_A ws H.size q → A q) (hS : va_S A s.heap H locs) (h0 : st₀.heap = H) (e1 : T'.heap = t.heap) (hL : ∀ q ∈ L, va_A ws H.size q.base) (hf : va_F (va_A ws H.size) st₀ t) : va_S A s.heap T'.heap (locs ++ L) := by
  obtain ⟨hz, hk⟩ := hf
  rw [h0] at hz hk
  exact ⟨Nat.le_trans hS.1 (by rw [e1]; exact hz), fun q h1 h2 => by
      rw [e1, hk q (Nat.lt_of_lt_of_le h1 hS.1) (fun z => h2 (hF q z))]; exact hS.2.1 q h1 h2, fun q hq => by
      rcases List.mem_append.mp hq with h | h
      · exact hS.2.2 q h
      · exact hF _ (hL q h)⟩
/-- a call that takes the whole world, and returns -/
theorem wbehind {a : Array Value} {rest st1 : List Value} {pc mc : Nat} {ls : Array Slot} {st0 : List Value} {ws ws1 : va_W} {r : Option Value}
    (hr : va_Run p l e R s m args below meth c H locs cells slots mc (6 * mc) (F0 m pc ls st0) rest (fun st oc t => oc = .returned r ∧ va_P D vwCl ws1 t.heap ∧ va_F (va_A ws H.size) st t) (va_A ws H.size))
    (hA : ∀ q : Nat, s.heap.size ≤ q → A q) (hD : va_D A ws) (hS : va_S A s.heap H locs) (hadr : ws1.map (fun q => q.1) = ws.map (fun q => q.1)) (hst : r.toList ++ rest = st1)
    (kk : ∀ (H1 : Heap) (locs1 : List Loc), va_P D vwCl ws1 H1 → va_D A ws1 → va_S A s.heap H1 locs1 → W p l e R s m args below meth c H1 locs1 (cells + mc) (slots + 6 * mc) Q (F0 m (pc + 3) ls st1)) : W p l e R s m args below meth c H locs cells slots Q (F0 m pc ls st0) := by
  intro T hT X
  obtain ⟨v, st₀, t, T', L, h0, X', hL, e1, e2, ⟨hv, hP1, hf⟩, st⟩ := hr T hT X
  cases hv
  obtain ⟨t2, a1, b1⟩ := kk T'.heap (locs ++ L) (by rw [e1]; exact hP1) (D_adr hadr hD) (whole_S (whole_F hA hD hS) hS h0 e1 hL hf) T' rfl X'
  subst hst
  exact ⟨t2, st t2 a1, b1⟩
theorem xcallA (X : Cx p s m args meth c own cc nL ret0 D g x A) {y : MethodName} {cy : ByteArray} {nLy fry loy mcy n idx tag : Nat} {rety : Option FieldType} {b : Nat} {As rest st0 st1 : List Value} {ws ws1 : va_W} {r : Option Value}
    (hC : CnX D g x l y cy nLy rety fry loy mcy (.ref b :: As) ws ws1 tag r) (hM : MwV y cy nLy rety n) (hlink : Cond.methodLink own idx y ∈ wG) (hR : fry + 1 ≤ R.frames ∧ 8 + (nLy + 11) + loy ≤ R.locals)
    (hP : va_P D vwCl ws H) (hD : va_D A ws) (hS : va_S A s.heap H locs) (hadr : ws1.map (fun q => q.1) = ws.map (fun q => q.1)) (q0 : Nat) {ci N : Nat} {T : u_T} {fs : List Value} (hq0 : ws[q0]? = some (b, .inr (ci, fs))) (hci : vwCl[ci]? = some (y.cls, T, N))
    {pc : Nat} {ls : Array Slot} (hn : As.length = n) (hls : ls.size = nL) (hst : st0 = As.reverse ++ .ref b :: rest) (hrm : (rest.map fun v => v.category).sum ≤ 8) (hdg : decode cc pc = .ok (.invokevirtual idx, 3)) (hcs : cells + mcy ≤ R.cells ∧ slots + 6 * mcy ≤ R.slots)
    (hst1 : r.toList ++ rest = st1)
    (kk : tag = 0 → ∀ (H1 : Heap) (locs1 : List Loc), va_P D vwCl ws1 H1 → va_D A ws1 → va_S A s.heap H1 locs1 → W p l e R s m args below meth c H1 locs1 (cells + mcy) (slots + 6 * mcy) Q (F0 m (pc + 3) ls st1))
    (kx : tag ≠ 0 → ∀ (H1 : Heap) (locs1 : List Loc) (q : Addr) (ce : Cell), va_P D vwCl ws1 H1 → va_D A ws1 → va_S A s.heap H1 locs1 → H1[q]? = some ce → ce.vm = .none → s.vm.findClass (exN tag) = some ce.cls → vx_W p l e R s m args below meth c H1 locs1 (cells + mcy) (slots + 6 * mcy) Q (F0 m pc ls rest) q) : W p l e R s m args below meth c H locs cells slots Q (F0 m pc ls st0) := by
  obtain ⟨hx, hb, hml, -, -, hown, hts, hK, hA, hE⟩ := X
  have hF := whole_F hA hD hS
  have hEc : Ext x (va_A ws H.size) s H := (hE.kept (fun a h1 h2 => hS.2.1 a h1 h2)).narrow hF
  have hr := vx_runV (As := As) (rest := rest) (n := n) (C := y.cls) (p := p) (l := l) (e := e) (R := R) (s := s) (m := m) (args := args) (below := below) (meth := meth) (c := c) (H := H) (locs := locs) (cells := cells) (slots := slots) (g := F0 m pc ls st0) ⟨hx, hb, hml, hown, hts⟩ (hC H.size) (cwV n hts (mwV_good hM hlink) rfl rfl rfl ⟨rfl, hM.2.2.2.2⟩ hR) ⟨fun a U g9 mk q => by
    obtain ⟨q1, q2, q3, q4, q5, q6⟩ := q
    exact ⟨q1, q2, q3, va_K.moved (u := U) (U := U.calling g9 mk a) (Vm.Alike.refl U.vm) q4, q5, Ext.same (s := U) (U := U.calling g9 mk a) rfl q6⟩, va_recv hK hP hci hq0, fun U hU hW => ⟨rfl, by rw [hU], by rw [hU]; exact hP, va_K.moved hW.alike hK, hD.weaken (fun _ _ _ _ => trivial), by rw [hU]; exact hEc.warm hW⟩⟩ rfl hn hls hst (lv_room hrm) hdg hcs
  intro T0 hT XX
  rcases hr T0 hT XX with ⟨v, st₀, t, T', L, h0, X', hL, e1, e2, ⟨ht, hv, hP1, hf⟩, st⟩ | ⟨q, st₀, t, T', L, E, ce, h0, X', hL, e1, e2, ⟨ht, rfl, hP1, hf⟩, hq, hqv, hcl, st⟩
  · cases hv
    obtain ⟨t2, a1, b1⟩ := kk ht T'.heap (locs ++ L) (by rw [e1]; exact hP1) (D_adr hadr hD) (whole_S hF hS h0 e1 hL hf) T' rfl X'
    subst hst1
    exact ⟨t2, st t2 a1, b1⟩
  · obtain ⟨t2, a1, b1⟩ := kx ht T'.heap (locs ++ L) q ce (by rw [e1]; exact hP1) (D_adr hadr hD) (whole_S hF hS h0 e1 hL hf) (by rw [e1]; exact hq) hqv hcl T' rfl X'
    exact ⟨t2, st.trans a1, b1⟩
theorem mcallA (X : Cx p s m args meth c own cc nL ret0 D g x A) {y : MethodName} {cy : ByteArray} {nLy fry loy n idx : Nat} {rety : Option FieldType} {b : Nat} {As rest st0 st1 : List Value} {ws ws1 : va_W} {r : Option Value}
    (hC : Cn D g x l y cy nLy rety fry loy (.ref b :: As) ws ws1 r) (hM : MwV y cy nLy rety n) (hlink : Cond.methodLink own idx y ∈ wG) (hR : fry + 1 ≤ R.frames ∧ 8 + (nLy + 11) + loy ≤ R.locals)
    (hP : va_P D vwCl ws H) (hD : va_D A ws) (hS : va_S A s.heap H locs) (hadr : ws1.map (fun q => q.1) = ws.map (fun q => q.1)) (q0 : Nat) {ci N : Nat} {T : u_T} {fs : List Value} (hq0 : ws[q0]? = some (b, .inr (ci, fs))) (hci : vwCl[ci]? = some (y.cls, T, N))
    {pc : Nat} {ls : Array Slot} (hn : As.length = n) (hls : ls.size = nL) (hst : st0 = As.reverse ++ .ref b :: rest) (hrm : (rest.map fun v => v.category).sum ≤ 8) (hdg : decode cc pc = .ok (.invokevirtual idx, 3)) (hcs : cells + 0 ≤ R.cells ∧ slots + 0 ≤ R.slots)
    (hst1 : r.toList ++ rest = st1)
    (kk : ∀ (H1 : Heap) (locs1 : List Loc), va_P D vwCl ws1 H1 → va_D A ws1 → va_S A s.heap H1 locs1 → W p l e R s m args below meth c H1 locs1 cells slots Q (F0 m (pc + 3) ls st1)) : W p l e R s m args below meth c H locs cells slots Q (F0 m pc ls st0) := by
  obtain ⟨hx, hb, hml, -, -, hown, hts, hK, hA, hE⟩ := X
  have hEc : Ext x (va_A ws H.size) s H := (hE.kept (fun a h1 h2 => hS.2.1 a h1 h2)).narrow (whole_F hA hD hS)
  exact wbehind (a := args) (mc := 0) (va_runV (As := As) (rest := rest) (n := n) (C := y.cls) ⟨hx, hb, hml, hown, hts⟩ (hC H.size) (cwV n hts (mwV_good hM hlink) rfl rfl rfl ⟨rfl, hM.2.2.2.2⟩ hR) ⟨fun a U g9 mk q => by
    obtain ⟨q1, q2, q3, q4, q5, q6⟩ := q
    exact ⟨q1, q2, q3, va_K.moved (u := U) (U := U.calling g9 mk a) (Vm.Alike.refl U.vm) q4, q5, Ext.same (s := U) (U := U.calling g9 mk a) rfl q6⟩, va_recv hK hP hci hq0, fun U hU hW => ⟨rfl, by rw [hU], by rw [hU]; exact hP, va_K.moved hW.alike hK, hD.weaken (fun _ _ _ _ => trivial), by rw [hU]; exact hEc.warm hW⟩⟩ rfl hn hls hst (lv_room hrm) hdg hcs) hA hD hS hadr hst1 kk
/-- what the tables say of a method with a table of its own -/
def MwH (y : MethodName) (cy : ByteArray) (nLy : Nat) (hh : List (Nat × Nat × Nat × Nat)) (n : Nat) : Prop := Cond.static y ∈ wG ∧ Cond.initialized y.cls ∈ wG ∧ Cond.codeWith y cy nLy (some .int) hh ∈ wG ∧ (y.cls ≠ "java/lang/invoke/MethodHandle" ∧ y.cls ≠ "java/lang/invoke/VarHandle" ∧ (parseMethodDescriptor y.desc).map (fun d => d.parameters.length) = some n)
theorem hcallA (X : Cx p s m args meth c own cc nL ret0 D g x A) {y : MethodName} {cy : ByteArray} {nLy fry loy mcy n idx : Nat} {hh : List (Nat × Nat × Nat × Nat)} {As rest st0 st1 : List Value} {ws ws1 : va_W} {r : Option Value}
    (hC : CnM D g x l y cy nLy hh fry loy mcy As ws ws1 r) (hM : MwH y cy nLy hh n) (hlink : Cond.methodLink own idx y ∈ wG) (hR : fry + 1 ≤ R.frames ∧ 8 + (nLy + 11) + loy ≤ R.locals)
    (hP : va_P D vwCl ws H) (hD : va_D A ws) (hS : va_S A s.heap H locs) (hadr : ws1.map (fun q => q.1) = ws.map (fun q => q.1))
    {pc : Nat} {ls : Array Slot} (hn : As.length = n) (hls : ls.size = nL) (hst : st0 = As.reverse ++ rest) (hrm : (rest.map fun v => v.category).sum ≤ 8) (hdg : decode cc pc = .ok (.invokestatic idx, 3)) (hcs : cells + mcy ≤ R.cells ∧ slots + 6 * mcy ≤ R.slots)
    (hst1 : r.toList ++ rest = st1)
    (kk : ∀ (H1 : Heap) (locs1 : List Loc), va_P D vwCl ws1 H1 → va_D A ws1 → va_S A s.heap H1 locs1 → W p l e R s m args below meth c H1 locs1 (cells + mcy) (slots + 6 * mcy) Q (F0 m (pc + 3) ls st1)) : W p l e R s m args below meth c H locs cells slots Q (F0 m pc ls st0) := by
  obtain ⟨hx, hb, hml, -, -, hown, hts, hK, hA, hE⟩ := X
  have hEc : Ext x (va_A ws H.size) s H := (hE.kept (fun a h1 h2 => hS.2.1 a h1 h2)).narrow (whole_F hA hD hS)
  have hgd : ∀ w ∈ (Cond.codeWith y cy nLy (some .int) hh :: wG), w ∈ wG ∧ ((w.onTables && w.keeps) = true ∨ ∃ ty, w = .arrayClass ty) := fun w hw => (List.mem_cons.mp hw).elim (fun e => by rw [e]; exact ⟨hM.2.2.1, wG_good hM.2.2.1⟩) (fun h => ⟨h, wG_good h⟩)
  exact wbehind (a := args) (vx_runSW (As := As) (rest := rest) (n := n) ⟨hx, hb, hml, hown, hts⟩ (hC H.size) ⟨⟨rfl, rfl, hR.1, hR.2, pay_in hts hgd, List.mem_cons_self⟩, hts _ hM.2.2.1, hts _ hM.2.1, ⟨hM.2.2.2.1, hM.2.2.2.2.1⟩, fun sig h => by
    have h2 := hM.2.2.2.2.2
    rw [h] at h2
    exact (Option.some.inj h2).symm, hts _ hlink, hts _ hM.1⟩ ⟨fun a U g9 mk q => by
    obtain ⟨q1, q2, q3, q4, q5, q6⟩ := q
    exact ⟨q1, q2, q3, va_K.moved (u := U) (U := U.calling g9 mk a) (Vm.Alike.refl U.vm) q4, q5, Ext.same (s := U) (U := U.calling g9 mk a) rfl q6⟩, fun U hU hW => ⟨rfl, by rw [hU], by rw [hU]; exact hP, va_K.moved hW.alike hK, hD.weaken (fun _ _ _ _ => trivial), by rw [hU]; exact hEc.warm hW⟩⟩ rfl hn hls hst (lv_room hrm) hdg hcs) hA hD hS hadr hst1 kk
end WHOLEC
section MDST
variable {p : Program} {l : Launch} {e : Env} {R : Room} {s : State} {m : MethodId} {args : Array Value} {below : List Frame} {meth : Method} {c : Code} {H : Heap} {locs : List Loc} {cells slots : Nat} {Q : State → Prop}
variable {D : va_G} {g : Nat → ClassId} {x : Xd} {A : Nat → Prop} {own : String} {cc : ByteArray} {nL : Nat} {ret0 : Option FieldType} {ws ws1 : va_W} {a n : Nat} {pc : Nat} {ls : Array Slot} {rest : List Value}
theorem mdst (X : Cx p s m args meth c own cc nL ret0 D g x A) (hP : va_P D vwCl ws H) (hD : va_D A ws) (hS : va_S A s.heap H locs) (q0 : Nat) {f : Nat → UInt64} (ha : ws[q0]? = some (a, .inl (g 3, n, .inr (.inr (.inr (.inl f)))))) {i : Int32} {z : UInt64} (hin : ¬ (i < 0 ∨ n ≤ i.toNatClampNeg)) (hdg : decode cc pc = .ok (.dastore, 1)) (hw : ws.set q0 (a, .inl (g 3, n, .inr (.inr (.inr (.inl (vf_upd f i.toNatClampNeg z)))))) = ws1)
    (kk : ∀ (H1 : Heap) (locs1 : List Loc), va_P D vwCl ws1 H1 → va_D A ws1 → va_S A s.heap H1 locs1 → W p l e R s m args below meth c H1 locs1 cells slots Q (F0 m (pc + 1) ls rest)) : W p l e R s m args below meth c H locs cells slots Q (F0 m pc ls (.double z :: .int i :: .ref a :: rest)) := by
  subst hw
  exact va_dast X.1 X.2.1 X.2.2.2.2.2.2.2.1 hP hD hS q0 3 ha rfl hin hdg kk
end MDST
theorem clL_2 : Cond.classLink RL 13 (exN 2) ∈ wG := wG_t 436 (by decide +kernel) (by decide +kernel)
theorem clL_1 : Cond.classLink RL 19 (exN 1) ∈ wG := wG_t 650 (by decide +kernel) (by decide +kernel)
theorem clL_4 : Cond.classLink RL 24 (exN 4) ∈ wG := wG_t 684 (by decide +kernel) (by decide +kernel)
theorem clL_3 : Cond.classLink RL 60 (exN 3) ∈ wG := wG_t 788 (by decide +kernel) (by decide +kernel)
theorem mw_X6_load : MwV yX6_load cX6_load 3 (some .int) 1 := ⟨wG_t 438 (by decide +kernel) (by decide +kernel), wG_t 439 (by decide +kernel) (by decide +kernel), wG_t 1 (by decide +kernel) (by decide +kernel), wG_t 440 (by decide +kernel) (by decide +kernel), ⟨by decide, by decide, by decide +kernel⟩⟩
theorem ml_L_7 : Cond.methodLink RL 7 yX6_load ∈ wG := wG_t 437 (by decide +kernel) (by decide +kernel)
theorem mh_load : MwH yL_load cL_load 4 [(0, 9, 12, 13)] 3 := ⟨wG_t 434 (by decide +kernel) (by decide +kernel), wG_t 0 (by decide +kernel) (by decide +kernel), wG_t 435 (by decide +kernel) (by decide +kernel), ⟨by decide, by decide, by decide +kernel⟩⟩
theorem mw_X6_point : MwV yX6_point cX6_point 3 (some .int) 2 := ⟨wG_t 652 (by decide +kernel) (by decide +kernel), wG_t 653 (by decide +kernel) (by decide +kernel), wG_t 1 (by decide +kernel) (by decide +kernel), wG_t 654 (by decide +kernel) (by decide +kernel), ⟨by decide, by decide, by decide +kernel⟩⟩
theorem ml_L_15 : Cond.methodLink RL 15 yX6_point ∈ wG := wG_t 651 (by decide +kernel) (by decide +kernel)
theorem mh_point : MwH yL_point cL_point 5 [(0, 10, 13, 19), (0, 10, 17, 13)] 4 := ⟨wG_t 648 (by decide +kernel) (by decide +kernel), wG_t 0 (by decide +kernel) (by decide +kernel), wG_t 649 (by decide +kernel) (by decide +kernel), ⟨by decide, by decide, by decide +kernel⟩⟩
theorem mw_X6_pointAt : MwV yX6_pointAt cX6_pointAt 3 (some .int) 1 := ⟨wG_t 686 (by decide +kernel) (by decide +kernel), wG_t 687 (by decide +kernel) (by decide +kernel), wG_t 1 (by decide +kernel) (by decide +kernel), wG_t 688 (by decide +kernel) (by decide +kernel), ⟨by decide, by decide, by decide +kernel⟩⟩
theorem ml_L_21 : Cond.methodLink RL 21 yX6_pointAt ∈ wG := wG_t 685 (by decide +kernel) (by decide +kernel)
theorem mh_pointAt : MwH yL_pointAt cL_pointAt 4 [(0, 9, 12, 13), (0, 9, 15, 24)] 3 := ⟨wG_t 682 (by decide +kernel) (by decide +kernel), wG_t 0 (by decide +kernel) (by decide +kernel), wG_t 683 (by decide +kernel) (by decide +kernel), ⟨by decide, by decide, by decide +kernel⟩⟩
theorem mw_X6_weight : MwV yX6_weight cX6_weight 2 (some .long) 1 := ⟨wG_t 713 (by decide +kernel) (by decide +kernel), wG_t 714 (by decide +kernel) (by decide +kernel), wG_t 1 (by decide +kernel) (by decide +kernel), wG_t 715 (by decide +kernel) (by decide +kernel), ⟨by decide, by decide, by decide +kernel⟩⟩
theorem ml_L_26 : Cond.methodLink RL 26 yX6_weight ∈ wG := wG_t 712 (by decide +kernel) (by decide +kernel)
theorem mh_weight : MwH yL_weight cL_weight 4 [(0, 8, 11, 19)] 3 := ⟨wG_t 710 (by decide +kernel) (by decide +kernel), wG_t 0 (by decide +kernel) (by decide +kernel), wG_t 711 (by decide +kernel) (by decide +kernel), ⟨by decide, by decide, by decide +kernel⟩⟩
theorem mw_X6_coefficient : MwV yX6_coefficient cX6_coefficient 3 (some .long) 2 := ⟨wG_t 720 (by decide +kernel) (by decide +kernel), wG_t 721 (by decide +kernel) (by decide +kernel), wG_t 1 (by decide +kernel) (by decide +kernel), wG_t 722 (by decide +kernel) (by decide +kernel), ⟨by decide, by decide, by decide +kernel⟩⟩
theorem ml_L_30 : Cond.methodLink RL 30 yX6_coefficient ∈ wG := wG_t 719 (by decide +kernel) (by decide +kernel)
theorem mh_coefficient : MwH yL_coefficient cL_coefficient 5 [(0, 9, 12, 13)] 4 := ⟨wG_t 717 (by decide +kernel) (by decide +kernel), wG_t 0 (by decide +kernel) (by decide +kernel), wG_t 718 (by decide +kernel) (by decide +kernel), ⟨by decide, by decide, by decide +kernel⟩⟩
theorem mw_X6_kindAt : MwV yX6_kindAt cX6_kindAt 2 (some .int) 1 := ⟨wG_t 727 (by decide +kernel) (by decide +kernel), wG_t 728 (by decide +kernel) (by decide +kernel), wG_t 1 (by decide +kernel) (by decide +kernel), wG_t 729 (by decide +kernel) (by decide +kernel), ⟨by decide, by decide, by decide +kernel⟩⟩
theorem ml_L_34 : Cond.methodLink RL 34 yX6_kindAt ∈ wG := wG_t 726 (by decide +kernel) (by decide +kernel)
theorem mh_kindAt : MwH yL_kindAt cL_kindAt 4 [(0, 9, 12, 13)] 3 := ⟨wG_t 724 (by decide +kernel) (by decide +kernel), wG_t 0 (by decide +kernel) (by decide +kernel), wG_t 725 (by decide +kernel) (by decide +kernel), ⟨by decide, by decide, by decide +kernel⟩⟩
theorem mw_X6_value : MwV yX6_value cX6_value 3 (some .long) 2 := ⟨wG_t 734 (by decide +kernel) (by decide +kernel), wG_t 735 (by decide +kernel) (by decide +kernel), wG_t 1 (by decide +kernel) (by decide +kernel), wG_t 736 (by decide +kernel) (by decide +kernel), ⟨by decide, by decide, by decide +kernel⟩⟩
theorem ml_L_37 : Cond.methodLink RL 37 yX6_value ∈ wG := wG_t 733 (by decide +kernel) (by decide +kernel)
theorem mh_value : MwH yL_value cL_value 5 [(0, 9, 12, 13), (0, 9, 16, 24)] 4 := ⟨wG_t 731 (by decide +kernel) (by decide +kernel), wG_t 0 (by decide +kernel) (by decide +kernel), wG_t 732 (by decide +kernel) (by decide +kernel), ⟨by decide, by decide, by decide +kernel⟩⟩
theorem mw_X6_about : MwV yX6_about cX6_about 6 (some .double) 1 := ⟨wG_t 749 (by decide +kernel) (by decide +kernel), wG_t 750 (by decide +kernel) (by decide +kernel), wG_t 1 (by decide +kernel) (by decide +kernel), wG_t 751 (by decide +kernel) (by decide +kernel), ⟨by decide, by decide, by decide +kernel⟩⟩
theorem ml_L_41 : Cond.methodLink RL 41 yX6_about ∈ wG := wG_t 748 (by decide +kernel) (by decide +kernel)
theorem mh_about : MwH yL_about cL_about 4 [(0, 8, 11, 13), (0, 8, 14, 24)] 3 := ⟨wG_t 746 (by decide +kernel) (by decide +kernel), wG_t 0 (by decide +kernel) (by decide +kernel), wG_t 747 (by decide +kernel) (by decide +kernel), ⟨by decide, by decide, by decide +kernel⟩⟩
theorem mw_X6_isMet : MwV yX6_isMet cX6_isMet 2 (some .boolean) 1 := ⟨wG_t 756 (by decide +kernel) (by decide +kernel), wG_t 757 (by decide +kernel) (by decide +kernel), wG_t 1 (by decide +kernel) (by decide +kernel), wG_t 758 (by decide +kernel) (by decide +kernel), ⟨by decide, by decide, by decide +kernel⟩⟩
theorem ml_L_45 : Cond.methodLink RL 45 yX6_isMet ∈ wG := wG_t 755 (by decide +kernel) (by decide +kernel)
theorem mh_isMet : MwH yL_isMet cL_isMet 4 [(0, 16, 19, 19)] 3 := ⟨wG_t 753 (by decide +kernel) (by decide +kernel), wG_t 0 (by decide +kernel) (by decide +kernel), wG_t 754 (by decide +kernel) (by decide +kernel), ⟨by decide, by decide, by decide +kernel⟩⟩
theorem mw_X6_nextPole : MwV yX6_nextPole cX6_nextPole 3 (some .int) 1 := ⟨wG_t 763 (by decide +kernel) (by decide +kernel), wG_t 764 (by decide +kernel) (by decide +kernel), wG_t 1 (by decide +kernel) (by decide +kernel), wG_t 765 (by decide +kernel) (by decide +kernel), ⟨by decide, by decide, by decide +kernel⟩⟩
theorem ml_L_49 : Cond.methodLink RL 49 yX6_nextPole ∈ wG := wG_t 762 (by decide +kernel) (by decide +kernel)
theorem mh_nextPole : MwH yL_nextPole cL_nextPole 4 [(0, 9, 12, 13), (0, 9, 15, 24)] 3 := ⟨wG_t 760 (by decide +kernel) (by decide +kernel), wG_t 0 (by decide +kernel) (by decide +kernel), wG_t 761 (by decide +kernel) (by decide +kernel), ⟨by decide, by decide, by decide +kernel⟩⟩
theorem mw_X6_extreme : MwV yX6_extreme cX6_extreme 6 (some .int) 1 := ⟨wG_t 771 (by decide +kernel) (by decide +kernel), wG_t 772 (by decide +kernel) (by decide +kernel), wG_t 1 (by decide +kernel) (by decide +kernel), wG_t 773 (by decide +kernel) (by decide +kernel), ⟨by decide, by decide, by decide +kernel⟩⟩
theorem ml_L_52 : Cond.methodLink RL 52 yX6_extreme ∈ wG := wG_t 770 (by decide +kernel) (by decide +kernel)
theorem mh_extreme : MwH yL_extreme cL_extreme 4 [(0, 9, 12, 24)] 3 := ⟨wG_t 768 (by decide +kernel) (by decide +kernel), wG_t 0 (by decide +kernel) (by decide +kernel), wG_t 769 (by decide +kernel) (by decide +kernel), ⟨by decide, by decide, by decide +kernel⟩⟩
theorem mw_X6_row : MwV yX6_row cX6_row 4 (some .long) 3 := ⟨wG_t 790 (by decide +kernel) (by decide +kernel), wG_t 791 (by decide +kernel) (by decide +kernel), wG_t 1 (by decide +kernel) (by decide +kernel), wG_t 792 (by decide +kernel) (by decide +kernel), ⟨by decide, by decide, by decide +kernel⟩⟩
theorem ml_L_56 : Cond.methodLink RL 56 yX6_row ∈ wG := wG_t 789 (by decide +kernel) (by decide +kernel)
theorem mh_row : MwH yL_row cL_row 6 [(0, 11, 14, 19), (0, 11, 18, 13), (0, 11, 22, 60)] 5 := ⟨wG_t 786 (by decide +kernel) (by decide +kernel), wG_t 0 (by decide +kernel) (by decide +kernel), wG_t 787 (by decide +kernel) (by decide +kernel), ⟨by decide, by decide, by decide +kernel⟩⟩
theorem mw_X6_slope : MwV yX6_slope cX6_slope 3 (some .long) 2 := ⟨wG_t 830 (by decide +kernel) (by decide +kernel), wG_t 831 (by decide +kernel) (by decide +kernel), wG_t 1 (by decide +kernel) (by decide +kernel), wG_t 832 (by decide +kernel) (by decide +kernel), ⟨by decide, by decide, by decide +kernel⟩⟩
theorem ml_L_62 : Cond.methodLink RL 62 yX6_slope ∈ wG := wG_t 829 (by decide +kernel) (by decide +kernel)
theorem mh_slope : MwH yL_slope cL_slope 5 [(0, 9, 12, 19), (0, 9, 16, 13), (0, 9, 20, 60)] 4 := ⟨wG_t 827 (by decide +kernel) (by decide +kernel), wG_t 0 (by decide +kernel) (by decide +kernel), wG_t 828 (by decide +kernel) (by decide +kernel), ⟨by decide, by decide, by decide +kernel⟩⟩
theorem mw_X6_steepest : MwV yX6_steepest cX6_steepest 3 (some .int) 0 := ⟨wG_t 841 (by decide +kernel) (by decide +kernel), wG_t 842 (by decide +kernel) (by decide +kernel), wG_t 1 (by decide +kernel) (by decide +kernel), wG_t 843 (by decide +kernel) (by decide +kernel), ⟨by decide, by decide, by decide +kernel⟩⟩
theorem ml_L_65 : Cond.methodLink RL 65 yX6_steepest ∈ wG := wG_t 840 (by decide +kernel) (by decide +kernel)
theorem mh_steepest : MwH yL_steepest cL_steepest 3 [(0, 8, 11, 24)] 2 := ⟨wG_t 838 (by decide +kernel) (by decide +kernel), wG_t 0 (by decide +kernel) (by decide +kernel), wG_t 839 (by decide +kernel) (by decide +kernel), ⟨by decide, by decide, by decide +kernel⟩⟩
theorem mw_X6_divided : MwV yX6_divided cX6_divided 4 (some .long) 3 := ⟨wG_t 849 (by decide +kernel) (by decide +kernel), wG_t 850 (by decide +kernel) (by decide +kernel), wG_t 1 (by decide +kernel) (by decide +kernel), wG_t 851 (by decide +kernel) (by decide +kernel), ⟨by decide, by decide, by decide +kernel⟩⟩
theorem ml_L_69 : Cond.methodLink RL 69 yX6_divided ∈ wG := wG_t 848 (by decide +kernel) (by decide +kernel)
theorem mh_divided : MwH yL_divided cL_divided 6 [(0, 11, 14, 19), (0, 11, 18, 13)] 5 := ⟨wG_t 846 (by decide +kernel) (by decide +kernel), wG_t 0 (by decide +kernel) (by decide +kernel), wG_t 847 (by decide +kernel) (by decide +kernel), ⟨by decide, by decide, by decide +kernel⟩⟩
theorem mw_X6_plainValue : MwV yX6_plainValue cX6_plainValue 3 (some .long) 2 := ⟨wG_t 863 (by decide +kernel) (by decide +kernel), wG_t 864 (by decide +kernel) (by decide +kernel), wG_t 1 (by decide +kernel) (by decide +kernel), wG_t 865 (by decide +kernel) (by decide +kernel), ⟨by decide, by decide, by decide +kernel⟩⟩
theorem ml_L_72 : Cond.methodLink RL 72 yX6_plainValue ∈ wG := wG_t 862 (by decide +kernel) (by decide +kernel)
theorem mh_plainValue : MwH yL_plainValue cL_plainValue 5 [(0, 9, 12, 13), (0, 9, 16, 24)] 4 := ⟨wG_t 860 (by decide +kernel) (by decide +kernel), wG_t 0 (by decide +kernel) (by decide +kernel), wG_t 861 (by decide +kernel) (by decide +kernel), ⟨by decide, by decide, by decide +kernel⟩⟩
theorem mw_X6_valueIf : MwV yX6_valueIf cX6_valueIf 5 (some .long) 4 := ⟨wG_t 870 (by decide +kernel) (by decide +kernel), wG_t 871 (by decide +kernel) (by decide +kernel), wG_t 1 (by decide +kernel) (by decide +kernel), wG_t 872 (by decide +kernel) (by decide +kernel), ⟨by decide, by decide, by decide +kernel⟩⟩
theorem ml_L_75 : Cond.methodLink RL 75 yX6_valueIf ∈ wG := wG_t 869 (by decide +kernel) (by decide +kernel)
theorem mh_valueIf : MwH yL_valueIf cL_valueIf 7 [(0, 13, 16, 19), (0, 13, 20, 13), (0, 13, 24, 60), (0, 13, 28, 24)] 6 := ⟨wG_t 867 (by decide +kernel) (by decide +kernel), wG_t 0 (by decide +kernel) (by decide +kernel), wG_t 868 (by decide +kernel) (by decide +kernel), ⟨by decide, by decide, by decide +kernel⟩⟩
theorem mw_X6_valueWithout : MwV yX6_valueWithout cX6_valueWithout 4 (some .long) 3 := ⟨wG_t 891 (by decide +kernel) (by decide +kernel), wG_t 892 (by decide +kernel) (by decide +kernel), wG_t 1 (by decide +kernel) (by decide +kernel), wG_t 893 (by decide +kernel) (by decide +kernel), ⟨by decide, by decide, by decide +kernel⟩⟩
theorem ml_L_79 : Cond.methodLink RL 79 yX6_valueWithout ∈ wG := wG_t 890 (by decide +kernel) (by decide +kernel)
theorem mh_valueWithout : MwH yL_valueWithout cL_valueWithout 6 [(0, 11, 14, 19), (0, 11, 18, 13), (0, 11, 22, 24)] 5 := ⟨wG_t 888 (by decide +kernel) (by decide +kernel), wG_t 0 (by decide +kernel) (by decide +kernel), wG_t 889 (by decide +kernel) (by decide +kernel), ⟨by decide, by decide, by decide +kernel⟩⟩
theorem mw_X6_bestPlace : MwV yX6_bestPlace cX6_bestPlace 6 (some .int) 2 := ⟨wG_t 904 (by decide +kernel) (by decide +kernel), wG_t 905 (by decide +kernel) (by decide +kernel), wG_t 1 (by decide +kernel) (by decide +kernel), wG_t 906 (by decide +kernel) (by decide +kernel), ⟨by decide, by decide, by decide +kernel⟩⟩
theorem ml_L_82 : Cond.methodLink RL 82 yX6_bestPlace ∈ wG := wG_t 903 (by decide +kernel) (by decide +kernel)
theorem mh_bestPlace : MwH yL_bestPlace cL_bestPlace 5 [(0, 10, 13, 19), (0, 10, 17, 13), (0, 10, 21, 24)] 4 := ⟨wG_t 901 (by decide +kernel) (by decide +kernel), wG_t 0 (by decide +kernel) (by decide +kernel), wG_t 902 (by decide +kernel) (by decide +kernel), ⟨by decide, by decide, by decide +kernel⟩⟩
theorem mw_X6_move : MwV yX6_move cX6_move 4 (some .int) 2 := ⟨wG_t 912 (by decide +kernel) (by decide +kernel), wG_t 913 (by decide +kernel) (by decide +kernel), wG_t 1 (by decide +kernel) (by decide +kernel), wG_t 914 (by decide +kernel) (by decide +kernel), ⟨by decide, by decide, by decide +kernel⟩⟩
theorem ml_L_85 : Cond.methodLink RL 85 yX6_move ∈ wG := wG_t 911 (by decide +kernel) (by decide +kernel)
theorem mh_move : MwH yL_move cL_move 5 [(0, 10, 13, 19), (0, 10, 17, 13), (0, 10, 21, 60)] 4 := ⟨wG_t 909 (by decide +kernel) (by decide +kernel), wG_t 0 (by decide +kernel) (by decide +kernel), wG_t 910 (by decide +kernel) (by decide +kernel), ⟨by decide, by decide, by decide +kernel⟩⟩
theorem mw_X6_setValue : MwV yX6_setValue cX6_setValue 4 (some .int) 2 := ⟨wG_t 919 (by decide +kernel) (by decide +kernel), wG_t 920 (by decide +kernel) (by decide +kernel), wG_t 1 (by decide +kernel) (by decide +kernel), wG_t 921 (by decide +kernel) (by decide +kernel), ⟨by decide, by decide, by decide +kernel⟩⟩
theorem ml_L_88 : Cond.methodLink RL 88 yX6_setValue ∈ wG := wG_t 918 (by decide +kernel) (by decide +kernel)
theorem mh_setValue : MwH yL_setValue cL_setValue 5 [(0, 10, 13, 19), (0, 10, 17, 13)] 4 := ⟨wG_t 916 (by decide +kernel) (by decide +kernel), wG_t 0 (by decide +kernel) (by decide +kernel), wG_t 917 (by decide +kernel) (by decide +kernel), ⟨by decide, by decide, by decide +kernel⟩⟩
theorem mw_X6_setWeight : MwV yX6_setWeight cX6_setWeight 4 (some .int) 2 := ⟨wG_t 927 (by decide +kernel) (by decide +kernel), wG_t 928 (by decide +kernel) (by decide +kernel), wG_t 1 (by decide +kernel) (by decide +kernel), wG_t 929 (by decide +kernel) (by decide +kernel), ⟨by decide, by decide, by decide +kernel⟩⟩
theorem ml_L_91 : Cond.methodLink RL 91 yX6_setWeight ∈ wG := wG_t 926 (by decide +kernel) (by decide +kernel)
theorem mh_setWeight : MwH yL_setWeight cL_setWeight 5 [(0, 10, 13, 19), (0, 10, 17, 13)] 4 := ⟨wG_t 924 (by decide +kernel) (by decide +kernel), wG_t 0 (by decide +kernel) (by decide +kernel), wG_t 925 (by decide +kernel) (by decide +kernel), ⟨by decide, by decide, by decide +kernel⟩⟩
theorem mw_X6_addPoint : MwV yX6_addPoint cX6_addPoint 4 (some .int) 3 := ⟨wG_t 935 (by decide +kernel) (by decide +kernel), wG_t 936 (by decide +kernel) (by decide +kernel), wG_t 1 (by decide +kernel) (by decide +kernel), wG_t 937 (by decide +kernel) (by decide +kernel), ⟨by decide, by decide, by decide +kernel⟩⟩
theorem ml_L_94 : Cond.methodLink RL 94 yX6_addPoint ∈ wG := wG_t 934 (by decide +kernel) (by decide +kernel)
theorem mh_addPoint : MwH yL_addPoint cL_addPoint 6 [(0, 12, 15, 13), (0, 12, 19, 60)] 5 := ⟨wG_t 932 (by decide +kernel) (by decide +kernel), wG_t 0 (by decide +kernel) (by decide +kernel), wG_t 933 (by decide +kernel) (by decide +kernel), ⟨by decide, by decide, by decide +kernel⟩⟩
theorem mw_X6_removePoint : MwV yX6_removePoint cX6_removePoint 2 (some .int) 1 := ⟨wG_t 945 (by decide +kernel) (by decide +kernel), wG_t 946 (by decide +kernel) (by decide +kernel), wG_t 1 (by decide +kernel) (by decide +kernel), wG_t 947 (by decide +kernel) (by decide +kernel), ⟨by decide, by decide, by decide +kernel⟩⟩
theorem ml_L_98 : Cond.methodLink RL 98 yX6_removePoint ∈ wG := wG_t 944 (by decide +kernel) (by decide +kernel)
theorem mh_removePoint : MwH yL_removePoint cL_removePoint 4 [(0, 9, 12, 19)] 3 := ⟨wG_t 942 (by decide +kernel) (by decide +kernel), wG_t 0 (by decide +kernel) (by decide +kernel), wG_t 943 (by decide +kernel) (by decide +kernel), ⟨by decide, by decide, by decide +kernel⟩⟩
theorem mw_X6_setMode : MwV yX6_setMode cX6_setMode 4 (some .int) 2 := ⟨wG_t 952 (by decide +kernel) (by decide +kernel), wG_t 953 (by decide +kernel) (by decide +kernel), wG_t 1 (by decide +kernel) (by decide +kernel), wG_t 954 (by decide +kernel) (by decide +kernel), ⟨by decide, by decide, by decide +kernel⟩⟩
theorem ml_L_101 : Cond.methodLink RL 101 yX6_setMode ∈ wG := wG_t 951 (by decide +kernel) (by decide +kernel)
theorem mh_setMode : MwH yL_setMode cL_setMode 5 [(0, 10, 13, 13)] 4 := ⟨wG_t 949 (by decide +kernel) (by decide +kernel), wG_t 0 (by decide +kernel) (by decide +kernel), wG_t 950 (by decide +kernel) (by decide +kernel), ⟨by decide, by decide, by decide +kernel⟩⟩
theorem mw_X6_shift : MwV yX6_shift cX6_shift 3 (some .int) 1 := ⟨wG_t 959 (by decide +kernel) (by decide +kernel), wG_t 960 (by decide +kernel) (by decide +kernel), wG_t 1 (by decide +kernel) (by decide +kernel), wG_t 961 (by decide +kernel) (by decide +kernel), ⟨by decide, by decide, by decide +kernel⟩⟩
theorem ml_L_104 : Cond.methodLink RL 104 yX6_shift ∈ wG := wG_t 958 (by decide +kernel) (by decide +kernel)
theorem mh_shift : MwH yL_shift cL_shift 4 [(0, 9, 12, 13), (0, 9, 15, 60)] 3 := ⟨wG_t 956 (by decide +kernel) (by decide +kernel), wG_t 0 (by decide +kernel) (by decide +kernel), wG_t 957 (by decide +kernel) (by decide +kernel), ⟨by decide, by decide, by decide +kernel⟩⟩
theorem mw_X6_written : MwV yX6_written cX6_written 2 (some .char) 1 := ⟨wG_t 971 (by decide +kernel) (by decide +kernel), wG_t 972 (by decide +kernel) (by decide +kernel), wG_t 1 (by decide +kernel) (by decide +kernel), wG_t 973 (by decide +kernel) (by decide +kernel), ⟨by decide, by decide, by decide +kernel⟩⟩
theorem ml_L_107 : Cond.methodLink RL 107 yX6_written ∈ wG := wG_t 970 (by decide +kernel) (by decide +kernel)
theorem mh_written : MwH yL_written cL_written 4 [(0, 9, 12, 19)] 3 := ⟨wG_t 968 (by decide +kernel) (by decide +kernel), wG_t 0 (by decide +kernel) (by decide +kernel), wG_t 969 (by decide +kernel) (by decide +kernel), ⟨by decide, by decide, by decide +kernel⟩⟩
def h_load (σ : S6) (p1 : Int32) (out : Nat → Int64) : Option (Int32 × S6 × (Nat → Int64)) := (s6_load σ p1).bind fun r => if r.1 = 0 then some (0, r.2.2, vp_updL out (Int32.toNatClampNeg 0) (Int32.toInt64 r.2.1)) else if r.1 = 2 then some (1, r.2.2, out) else none
set_option maxHeartbeats 4000000 in
set_option maxRecDepth 100000 in
theorem H_load (D : va_G) (g : Nat → ClassId) (x : Xd) (l : Launch) (hl0 : l.stackTraces = false) (a : Nat → Nat) (e : Nat → Nat → Nat) (qo : Nat) (σ : S6) (p1 : Int32) (out : Nat → Int64) (R : Int32 × S6 × (Nat → Int64)) (h : h_load σ p1 out = some R) : CnM D g x l yL_load cL_load 4 [(0, 9, 12, 13)] 9 314 1 [.ref (a 0), .int p1, .ref qo] (w6 g a e σ ++ [cOut g qo out]) (w6 g a e R.2.1 ++ [cOut g qo R.2.2]) (some (.int R.1)) := by
  refine CnM.mk (by decide +kernel) (Nat.le_of_ble_eq_true rfl) (fun p e9 s m args below meth c A Q ls X htab hD hP hS fin hl => ?_)
  obtain ⟨hx, hb, hml, -, -, hown, hts, hK, hA, hE⟩ := id X
  have hl : lv_has ls 4 [(0, .ref (a 0)), (1, .int p1), (2, .ref qo)] := hl
  obtain ⟨r, hr, h⟩ := o_b h
  refine lv_aload_n hx hb dL_load_0 rfl (lv_at hl 2 rfl) ?_
  refine lv_iconst (v := 0) hx hb dL_load_1 (by decide) ?_
  refine lv_aload_n hx hb dL_load_2 rfl (lv_at hl 0 rfl) ?_
  refine lv_iload_n hx hb dL_load_3 rfl (lv_at hl 1 rfl) ?_
  have hC := (K6_load D g x l hl0 a e σ p1 r hr).ext _ (mrg_ones _ _ [cOut g qo out] (w6_adr g a e σ r.2.2))
  refine xcallA X (As := [.int p1]) (rest := [.int 0, .ref qo]) (st1 := [.int r.2.1, .int 0, .ref qo]) hC mw_X6_load ml_L_7 ⟨(Nat.le_of_ble_eq_true rfl), (Nat.le_of_ble_eq_true rfl)⟩ hP hD hS rfl 0 rfl rfl rfl hl.1 rfl (Nat.le_of_ble_eq_true rfl) dL_load_4 ⟨(Nat.le_of_ble_eq_true rfl), (Nat.le_of_ble_eq_true rfl)⟩ rfl (fun t1 H locs hP hD hS => ?_) (fun t1 H locs q ce hP hD hS hq hqv hqc => ?_)
  · have h := o_t t1 h
    refine lv_i2l (v := Int32.toInt64 r.2.1) hx hb dL_load_7 rfl ?_
    refine mlst X (n := 1) (ws1 := w6 g a e r.2.2 ++ [cOut g qo (vp_updL out (Int32.toNatClampNeg 0) (Int32.toInt64 r.2.1))]) hP hD hS 71 rfl (by decide) dL_load_8 rfl (fun H locs hP hD hS => ?_)
    refine lv_goto (tgt := 15) hx hb dL_load_9 (by decide) ?_
    refine lv_iconst (v := 0) hx hb dL_load_15 (by decide) ?_
    cases h
    exact fin _ _ _ _ _ _ (Nat.le_of_ble_eq_true rfl) (Nat.le_of_ble_eq_true rfl) hP hS dL_load_16
  · have h := o_f t1 h
    by_cases b3 : r.1 = 2
    · have h := o_t b3 h
      rw [b3] at hqc
      refine vx_catch (E := exN 2) (name := exN 2) hown [] ⟨0, 9, 12, 13⟩ [] (htab.trans rfl) (fun z hz => nomatch hz) (by decide) (by decide) (hts _ clL_2) (va_Nw.use rfl (hE.2.2.2.2.2.2.2.2.1 _ (by decide))) hq hqv hqc ?_
      refine lv_astore_n (lv' := [(3, .ref q), (0, .ref (a 0)), (1, .int p1), (2, .ref qo)]) hx hb dL_load_12 rfl hl (by decide) rfl (fun ls hl => ?_)
      refine lv_iconst (v := 1) hx hb dL_load_13 (by decide) ?_
      cases h
      exact fin _ _ _ _ _ _ (Nat.le_of_ble_eq_true rfl) (Nat.le_of_ble_eq_true rfl) hP hS dL_load_14
    · have h := o_f b3 h
      cases h
def h_point (σ : S6) (p1 : Int32) (p2 : Int32) (out : Nat → Int64) : Option (Int32 × S6 × (Nat → Int64)) := (s6_point σ p1 p2).bind fun r => if r.1 = 0 then some (0, r.2.2, vp_updL out (Int32.toNatClampNeg 0) (Int32.toInt64 r.2.1)) else if r.1 = 1 then some (1, r.2.2, out) else if r.1 = 2 then some (2, r.2.2, out) else none
set_option maxHeartbeats 4000000 in
set_option maxRecDepth 100000 in
theorem H_point (D : va_G) (g : Nat → ClassId) (x : Xd) (l : Launch) (hl0 : l.stackTraces = false) (a : Nat → Nat) (e : Nat → Nat → Nat) (qo : Nat) (σ : S6) (p1 : Int32) (p2 : Int32) (out : Nat → Int64) (R : Int32 × S6 × (Nat → Int64)) (h : h_point σ p1 p2 out = some R) : CnM D g x l yL_point cL_point 5 [(0, 10, 13, 19), (0, 10, 17, 13)] 8 134 2 [.ref (a 0), .int p1, .int p2, .ref qo] (w6 g a e σ ++ [cOut g qo out]) (w6 g a e R.2.1 ++ [cOut g qo R.2.2]) (some (.int R.1)) := by
  refine CnM.mk (by decide +kernel) (Nat.le_of_ble_eq_true rfl) (fun p e9 s m args below meth c A Q ls X htab hD hP hS fin hl => ?_)
  obtain ⟨hx, hb, hml, -, -, hown, hts, hK, hA, hE⟩ := id X
  have hl : lv_has ls 5 [(0, .ref (a 0)), (1, .int p1), (2, .int p2), (3, .ref qo)] := hl
  obtain ⟨r, hr, h⟩ := o_b h
  refine lv_aload_n hx hb dL_point_0 rfl (lv_at hl 3 rfl) ?_
  refine lv_iconst (v := 0) hx hb dL_point_1 (by decide) ?_
  refine lv_aload_n hx hb dL_point_2 rfl (lv_at hl 0 rfl) ?_
  refine lv_iload_n hx hb dL_point_3 rfl (lv_at hl 1 rfl) ?_
  refine lv_iload_n hx hb dL_point_4 rfl (lv_at hl 2 rfl) ?_
  have hC := (K6_point D g x l hl0 a e σ p1 p2 r hr).ext _ (mrg_ones _ _ [cOut g qo out] (w6_adr g a e σ r.2.2))
  refine xcallA X (As := [.int p1, .int p2]) (rest := [.int 0, .ref qo]) (st1 := [.int r.2.1, .int 0, .ref qo]) hC mw_X6_point ml_L_15 ⟨(Nat.le_of_ble_eq_true rfl), (Nat.le_of_ble_eq_true rfl)⟩ hP hD hS rfl 0 rfl rfl rfl hl.1 rfl (Nat.le_of_ble_eq_true rfl) dL_point_5 ⟨(Nat.le_of_ble_eq_true rfl), (Nat.le_of_ble_eq_true rfl)⟩ rfl (fun t1 H locs hP hD hS => ?_) (fun t1 H locs q ce hP hD hS hq hqv hqc => ?_)
  · have h := o_t t1 h
    refine lv_i2l (v := Int32.toInt64 r.2.1) hx hb dL_point_8 rfl ?_
    refine mlst X (n := 1) (ws1 := w6 g a e r.2.2 ++ [cOut g qo (vp_updL out (Int32.toNatClampNeg 0) (Int32.toInt64 r.2.1))]) hP hD hS 71 rfl (by decide) dL_point_9 rfl (fun H locs hP hD hS => ?_)
    refine lv_goto (tgt := 21) hx hb dL_point_10 (by decide) ?_
    refine lv_iconst (v := 0) hx hb dL_point_21 (by decide) ?_
    cases h
    exact fin _ _ _ _ _ _ (Nat.le_of_ble_eq_true rfl) (Nat.le_of_ble_eq_true rfl) hP hS dL_point_22
  · have h := o_f t1 h
    by_cases b3 : r.1 = 1
    · have h := o_t b3 h
      rw [b3] at hqc
      refine vx_catch (E := exN 1) (name := exN 1) hown [] ⟨0, 10, 13, 19⟩ [⟨0, 10, 17, 13⟩] (htab.trans rfl) (fun z hz => nomatch hz) (by decide) (by decide) (hts _ clL_1) (va_Nw.use rfl (hE.2.2.2.2.2.2.2.2.1 _ (by decide))) hq hqv hqc ?_
      refine lv_astore (lv' := [(4, .ref q), (0, .ref (a 0)), (1, .int p1), (2, .int p2), (3, .ref qo)]) hx hb dL_point_13 hl (by decide) rfl (fun ls hl => ?_)
      refine lv_iconst (v := 1) hx hb dL_point_15 (by decide) ?_
      cases h
      exact fin _ _ _ _ _ _ (Nat.le_of_ble_eq_true rfl) (Nat.le_of_ble_eq_true rfl) hP hS dL_point_16
    · have h := o_f b3 h
      by_cases b4 : r.1 = 2
      · have h := o_t b4 h
        rw [b4] at hqc
        have hpass : ∀ z ∈ ([⟨0, 10, 13, 19⟩] : List Jvm.ClassFile.ExceptionTableEntry), covers z 5 = false ∨ (z.catchType ≠ 0 ∧ ∃ nm : String, (Cond.classLink RL z.catchType nm).before args s = true ∧ va_Nc (exN 2) nm s) := by
          intro z hz
          simp only [List.mem_cons, List.not_mem_nil, or_false] at hz
          subst hz
          exact Or.inr ⟨by decide, exN 1, hts _ clL_1, hE.2.2.2.2.2.2.2.2.2.1 _ (by decide) _ (by decide) (by decide)⟩
        refine vx_catch (E := exN 2) (name := exN 2) hown [⟨0, 10, 13, 19⟩] ⟨0, 10, 17, 13⟩ [] (htab.trans rfl) hpass (by decide) (by decide) (hts _ clL_2) (va_Nw.use rfl (hE.2.2.2.2.2.2.2.2.1 _ (by decide))) hq hqv hqc ?_
        refine lv_astore (lv' := [(4, .ref q), (0, .ref (a 0)), (1, .int p1), (2, .int p2), (3, .ref qo)]) hx hb dL_point_17 hl (by decide) rfl (fun ls hl => ?_)
        refine lv_iconst (v := 2) hx hb dL_point_19 (by decide) ?_
        cases h
        exact fin _ _ _ _ _ _ (Nat.le_of_ble_eq_true rfl) (Nat.le_of_ble_eq_true rfl) hP hS dL_point_20
      · have h := o_f b4 h
        cases h
def h_pointAt (σ : S6) (p1 : Int32) (out : Nat → Int64) : Option (Int32 × S6 × (Nat → Int64)) := (s6_pointAt σ p1).bind fun r => if r.1 = 0 then some (0, r.2.2, vp_updL out (Int32.toNatClampNeg 0) (Int32.toInt64 r.2.1)) else if r.1 = 2 then some (1, r.2.2, out) else if r.1 = 4 then some (2, r.2.2, out) else none
set_option maxHeartbeats 4000000 in
set_option maxRecDepth 100000 in
theorem H_pointAt (D : va_G) (g : Nat → ClassId) (x : Xd) (l : Launch) (hl0 : l.stackTraces = false) (a : Nat → Nat) (e : Nat → Nat → Nat) (qo : Nat) (σ : S6) (p1 : Int32) (out : Nat → Int64) (R : Int32 × S6 × (Nat → Int64)) (h : h_pointAt σ p1 out = some R) : CnM D g x l yL_pointAt cL_pointAt 4 [(0, 9, 12, 13), (0, 9, 15, 24)] 9 155 2 [.ref (a 0), .int p1, .ref qo] (w6 g a e σ ++ [cOut g qo out]) (w6 g a e R.2.1 ++ [cOut g qo R.2.2]) (some (.int R.1)) := by
  refine CnM.mk (by decide +kernel) (Nat.le_of_ble_eq_true rfl) (fun p e9 s m args below meth c A Q ls X htab hD hP hS fin hl => ?_)
  obtain ⟨hx, hb, hml, -, -, hown, hts, hK, hA, hE⟩ := id X
  have hl : lv_has ls 4 [(0, .ref (a 0)), (1, .int p1), (2, .ref qo)] := hl
  obtain ⟨r, hr, h⟩ := o_b h
  refine lv_aload_n hx hb dL_pointAt_0 rfl (lv_at hl 2 rfl) ?_
  refine lv_iconst (v := 0) hx hb dL_pointAt_1 (by decide) ?_
  refine lv_aload_n hx hb dL_pointAt_2 rfl (lv_at hl 0 rfl) ?_
  refine lv_iload_n hx hb dL_pointAt_3 rfl (lv_at hl 1 rfl) ?_
  have hC := (K6_pointAt D g x l hl0 a e σ p1 r hr).ext _ (mrg_ones _ _ [cOut g qo out] (w6_adr g a e σ r.2.2))
  refine xcallA X (As := [.int p1]) (rest := [.int 0, .ref qo]) (st1 := [.int r.2.1, .int 0, .ref qo]) hC mw_X6_pointAt ml_L_21 ⟨(Nat.le_of_ble_eq_true rfl), (Nat.le_of_ble_eq_true rfl)⟩ hP hD hS rfl 0 rfl rfl rfl hl.1 rfl (Nat.le_of_ble_eq_true rfl) dL_pointAt_4 ⟨(Nat.le_of_ble_eq_true rfl), (Nat.le_of_ble_eq_true rfl)⟩ rfl (fun t1 H locs hP hD hS => ?_) (fun t1 H locs q ce hP hD hS hq hqv hqc => ?_)
  · have h := o_t t1 h
    refine lv_i2l (v := Int32.toInt64 r.2.1) hx hb dL_pointAt_7 rfl ?_
    refine mlst X (n := 1) (ws1 := w6 g a e r.2.2 ++ [cOut g qo (vp_updL out (Int32.toNatClampNeg 0) (Int32.toInt64 r.2.1))]) hP hD hS 71 rfl (by decide) dL_pointAt_8 rfl (fun H locs hP hD hS => ?_)
    refine lv_goto (tgt := 18) hx hb dL_pointAt_9 (by decide) ?_
    refine lv_iconst (v := 0) hx hb dL_pointAt_18 (by decide) ?_
    cases h
    exact fin _ _ _ _ _ _ (Nat.le_of_ble_eq_true rfl) (Nat.le_of_ble_eq_true rfl) hP hS dL_pointAt_19
  · have h := o_f t1 h
    by_cases b3 : r.1 = 2
    · have h := o_t b3 h
      rw [b3] at hqc
      refine vx_catch (E := exN 2) (name := exN 2) hown [] ⟨0, 9, 12, 13⟩ [⟨0, 9, 15, 24⟩] (htab.trans rfl) (fun z hz => nomatch hz) (by decide) (by decide) (hts _ clL_2) (va_Nw.use rfl (hE.2.2.2.2.2.2.2.2.1 _ (by decide))) hq hqv hqc ?_
      refine lv_astore_n (lv' := [(3, .ref q), (0, .ref (a 0)), (1, .int p1), (2, .ref qo)]) hx hb dL_pointAt_12 rfl hl (by decide) rfl (fun ls hl => ?_)
      refine lv_iconst (v := 1) hx hb dL_pointAt_13 (by decide) ?_
      cases h
      exact fin _ _ _ _ _ _ (Nat.le_of_ble_eq_true rfl) (Nat.le_of_ble_eq_true rfl) hP hS dL_pointAt_14
    · have h := o_f b3 h
      by_cases b4 : r.1 = 4
      · have h := o_t b4 h
        rw [b4] at hqc
        have hpass : ∀ z ∈ ([⟨0, 9, 12, 13⟩] : List Jvm.ClassFile.ExceptionTableEntry), covers z 4 = false ∨ (z.catchType ≠ 0 ∧ ∃ nm : String, (Cond.classLink RL z.catchType nm).before args s = true ∧ va_Nc (exN 4) nm s) := by
          intro z hz
          simp only [List.mem_cons, List.not_mem_nil, or_false] at hz
          subst hz
          exact Or.inr ⟨by decide, exN 2, hts _ clL_2, hE.2.2.2.2.2.2.2.2.2.1 _ (by decide) _ (by decide) (by decide)⟩
        refine vx_catch (E := exN 4) (name := exN 4) hown [⟨0, 9, 12, 13⟩] ⟨0, 9, 15, 24⟩ [] (htab.trans rfl) hpass (by decide) (by decide) (hts _ clL_4) (va_Nw.use rfl (hE.2.2.2.2.2.2.2.2.1 _ (by decide))) hq hqv hqc ?_
        refine lv_astore_n (lv' := [(3, .ref q), (0, .ref (a 0)), (1, .int p1), (2, .ref qo)]) hx hb dL_pointAt_15 rfl hl (by decide) rfl (fun ls hl => ?_)
        refine lv_iconst (v := 2) hx hb dL_pointAt_16 (by decide) ?_
        cases h
        exact fin _ _ _ _ _ _ (Nat.le_of_ble_eq_true rfl) (Nat.le_of_ble_eq_true rfl) hP hS dL_pointAt_17
      · have h := o_f b4 h
        cases h
def h_weight (σ : S6) (p1 : Int32) (out : Nat → Int64) : Option (Int32 × S6 × (Nat → Int64)) := (s6_weight σ p1).bind fun r => if r.1 = 0 then some (0, r.2.2, vp_updL out (Int32.toNatClampNeg 0) (r.2.1)) else if r.1 = 1 then some (1, r.2.2, out) else none
set_option maxHeartbeats 4000000 in
set_option maxRecDepth 100000 in
theorem H_weight (D : va_G) (g : Nat → ClassId) (x : Xd) (l : Launch) (hl0 : l.stackTraces = false) (a : Nat → Nat) (e : Nat → Nat → Nat) (qo : Nat) (σ : S6) (p1 : Int32) (out : Nat → Int64) (R : Int32 × S6 × (Nat → Int64)) (h : h_weight σ p1 out = some R) : CnM D g x l yL_weight cL_weight 4 [(0, 8, 11, 19)] 8 132 1 [.ref (a 0), .int p1, .ref qo] (w6 g a e σ ++ [cOut g qo out]) (w6 g a e R.2.1 ++ [cOut g qo R.2.2]) (some (.int R.1)) := by
  refine CnM.mk (by decide +kernel) (Nat.le_of_ble_eq_true rfl) (fun p e9 s m args below meth c A Q ls X htab hD hP hS fin hl => ?_)
  obtain ⟨hx, hb, hml, -, -, hown, hts, hK, hA, hE⟩ := id X
  have hl : lv_has ls 4 [(0, .ref (a 0)), (1, .int p1), (2, .ref qo)] := hl
  obtain ⟨r, hr, h⟩ := o_b h
  refine lv_aload_n hx hb dL_weight_0 rfl (lv_at hl 2 rfl) ?_
  refine lv_iconst (v := 0) hx hb dL_weight_1 (by decide) ?_
  refine lv_aload_n hx hb dL_weight_2 rfl (lv_at hl 0 rfl) ?_
  refine lv_iload_n hx hb dL_weight_3 rfl (lv_at hl 1 rfl) ?_
  have hC := (K6_weight D g x l hl0 a e σ p1 r hr).ext _ (mrg_ones _ _ [cOut g qo out] (w6_adr g a e σ r.2.2))
  refine xcallA X (As := [.int p1]) (rest := [.int 0, .ref qo]) (st1 := [.long r.2.1, .int 0, .ref qo]) hC mw_X6_weight ml_L_26 ⟨(Nat.le_of_ble_eq_true rfl), (Nat.le_of_ble_eq_true rfl)⟩ hP hD hS rfl 0 rfl rfl rfl hl.1 rfl (Nat.le_of_ble_eq_true rfl) dL_weight_4 ⟨(Nat.le_of_ble_eq_true rfl), (Nat.le_of_ble_eq_true rfl)⟩ rfl (fun t1 H locs hP hD hS => ?_) (fun t1 H locs q ce hP hD hS hq hqv hqc => ?_)
  · have h := o_t t1 h
    refine mlst X (n := 1) (ws1 := w6 g a e r.2.2 ++ [cOut g qo (vp_updL out (Int32.toNatClampNeg 0) (r.2.1))]) hP hD hS 71 rfl (by decide) dL_weight_7 rfl (fun H locs hP hD hS => ?_)
    refine lv_goto (tgt := 14) hx hb dL_weight_8 (by decide) ?_
    refine lv_iconst (v := 0) hx hb dL_weight_14 (by decide) ?_
    cases h
    exact fin _ _ _ _ _ _ (Nat.le_of_ble_eq_true rfl) (Nat.le_of_ble_eq_true rfl) hP hS dL_weight_15
  · have h := o_f t1 h
    by_cases b3 : r.1 = 1
    · have h := o_t b3 h
      rw [b3] at hqc
      refine vx_catch (E := exN 1) (name := exN 1) hown [] ⟨0, 8, 11, 19⟩ [] (htab.trans rfl) (fun z hz => nomatch hz) (by decide) (by decide) (hts _ clL_1) (va_Nw.use rfl (hE.2.2.2.2.2.2.2.2.1 _ (by decide))) hq hqv hqc ?_
      refine lv_astore_n (lv' := [(3, .ref q), (0, .ref (a 0)), (1, .int p1), (2, .ref qo)]) hx hb dL_weight_11 rfl hl (by decide) rfl (fun ls hl => ?_)
      refine lv_iconst (v := 1) hx hb dL_weight_12 (by decide) ?_
      cases h
      exact fin _ _ _ _ _ _ (Nat.le_of_ble_eq_true rfl) (Nat.le_of_ble_eq_true rfl) hP hS dL_weight_13
    · have h := o_f b3 h
      cases h
def h_coefficient (σ : S6) (p1 : Int32) (p2 : Int32) (out : Nat → Int64) : Option (Int32 × S6 × (Nat → Int64)) := (s6_coefficient σ p1 p2).bind fun r => if r.1 = 0 then some (0, r.2.2, vp_updL out (Int32.toNatClampNeg 0) (r.2.1)) else if r.1 = 2 then some (1, r.2.2, out) else none
set_option maxHeartbeats 4000000 in
set_option maxRecDepth 100000 in
theorem H_coefficient (D : va_G) (g : Nat → ClassId) (x : Xd) (l : Launch) (hl0 : l.stackTraces = false) (a : Nat → Nat) (e : Nat → Nat → Nat) (qo : Nat) (σ : S6) (p1 : Int32) (p2 : Int32) (out : Nat → Int64) (R : Int32 × S6 × (Nat → Int64)) (h : h_coefficient σ p1 p2 out = some R) : CnM D g x l yL_coefficient cL_coefficient 5 [(0, 9, 12, 13)] 8 134 1 [.ref (a 0), .int p1, .int p2, .ref qo] (w6 g a e σ ++ [cOut g qo out]) (w6 g a e R.2.1 ++ [cOut g qo R.2.2]) (some (.int R.1)) := by
  refine CnM.mk (by decide +kernel) (Nat.le_of_ble_eq_true rfl) (fun p e9 s m args below meth c A Q ls X htab hD hP hS fin hl => ?_)
  obtain ⟨hx, hb, hml, -, -, hown, hts, hK, hA, hE⟩ := id X
  have hl : lv_has ls 5 [(0, .ref (a 0)), (1, .int p1), (2, .int p2), (3, .ref qo)] := hl
  obtain ⟨r, hr, h⟩ := o_b h
  refine lv_aload_n hx hb dL_coefficient_0 rfl (lv_at hl 3 rfl) ?_
  refine lv_iconst (v := 0) hx hb dL_coefficient_1 (by decide) ?_
  refine lv_aload_n hx hb dL_coefficient_2 rfl (lv_at hl 0 rfl) ?_
  refine lv_iload_n hx hb dL_coefficient_3 rfl (lv_at hl 1 rfl) ?_
  refine lv_iload_n hx hb dL_coefficient_4 rfl (lv_at hl 2 rfl) ?_
  have hC := (K6_coefficient D g x l hl0 a e σ p1 p2 r hr).ext _ (mrg_ones _ _ [cOut g qo out] (w6_adr g a e σ r.2.2))
  refine xcallA X (As := [.int p1, .int p2]) (rest := [.int 0, .ref qo]) (st1 := [.long r.2.1, .int 0, .ref qo]) hC mw_X6_coefficient ml_L_30 ⟨(Nat.le_of_ble_eq_true rfl), (Nat.le_of_ble_eq_true rfl)⟩ hP hD hS rfl 0 rfl rfl rfl hl.1 rfl (Nat.le_of_ble_eq_true rfl) dL_coefficient_5 ⟨(Nat.le_of_ble_eq_true rfl), (Nat.le_of_ble_eq_true rfl)⟩ rfl (fun t1 H locs hP hD hS => ?_) (fun t1 H locs q ce hP hD hS hq hqv hqc => ?_)
  · have h := o_t t1 h
    refine mlst X (n := 1) (ws1 := w6 g a e r.2.2 ++ [cOut g qo (vp_updL out (Int32.toNatClampNeg 0) (r.2.1))]) hP hD hS 71 rfl (by decide) dL_coefficient_8 rfl (fun H locs hP hD hS => ?_)
    refine lv_goto (tgt := 16) hx hb dL_coefficient_9 (by decide) ?_
    refine lv_iconst (v := 0) hx hb dL_coefficient_16 (by decide) ?_
    cases h
    exact fin _ _ _ _ _ _ (Nat.le_of_ble_eq_true rfl) (Nat.le_of_ble_eq_true rfl) hP hS dL_coefficient_17
  · have h := o_f t1 h
    by_cases b3 : r.1 = 2
    · have h := o_t b3 h
      rw [b3] at hqc
      refine vx_catch (E := exN 2) (name := exN 2) hown [] ⟨0, 9, 12, 13⟩ [] (htab.trans rfl) (fun z hz => nomatch hz) (by decide) (by decide) (hts _ clL_2) (va_Nw.use rfl (hE.2.2.2.2.2.2.2.2.1 _ (by decide))) hq hqv hqc ?_
      refine lv_astore (lv' := [(4, .ref q), (0, .ref (a 0)), (1, .int p1), (2, .int p2), (3, .ref qo)]) hx hb dL_coefficient_12 hl (by decide) rfl (fun ls hl => ?_)
      refine lv_iconst (v := 1) hx hb dL_coefficient_14 (by decide) ?_
      cases h
      exact fin _ _ _ _ _ _ (Nat.le_of_ble_eq_true rfl) (Nat.le_of_ble_eq_true rfl) hP hS dL_coefficient_15
    · have h := o_f b3 h
      cases h
def h_kindAt (σ : S6) (p1 : Int32) (out : Nat → Int64) : Option (Int32 × S6 × (Nat → Int64)) := (s6_kindAt σ p1).bind fun r => if r.1 = 0 then some (0, r.2.2, vp_updL out (Int32.toNatClampNeg 0) (Int32.toInt64 r.2.1)) else if r.1 = 2 then some (1, r.2.2, out) else none
set_option maxHeartbeats 4000000 in
set_option maxRecDepth 100000 in
theorem H_kindAt (D : va_G) (g : Nat → ClassId) (x : Xd) (l : Launch) (hl0 : l.stackTraces = false) (a : Nat → Nat) (e : Nat → Nat → Nat) (qo : Nat) (σ : S6) (p1 : Int32) (out : Nat → Int64) (R : Int32 × S6 × (Nat → Int64)) (h : h_kindAt σ p1 out = some R) : CnM D g x l yL_kindAt cL_kindAt 4 [(0, 9, 12, 13)] 9 154 1 [.ref (a 0), .int p1, .ref qo] (w6 g a e σ ++ [cOut g qo out]) (w6 g a e R.2.1 ++ [cOut g qo R.2.2]) (some (.int R.1)) := by
  refine CnM.mk (by decide +kernel) (Nat.le_of_ble_eq_true rfl) (fun p e9 s m args below meth c A Q ls X htab hD hP hS fin hl => ?_)
  obtain ⟨hx, hb, hml, -, -, hown, hts, hK, hA, hE⟩ := id X
  have hl : lv_has ls 4 [(0, .ref (a 0)), (1, .int p1), (2, .ref qo)] := hl
  obtain ⟨r, hr, h⟩ := o_b h
  refine lv_aload_n hx hb dL_kindAt_0 rfl (lv_at hl 2 rfl) ?_
  refine lv_iconst (v := 0) hx hb dL_kindAt_1 (by decide) ?_
  refine lv_aload_n hx hb dL_kindAt_2 rfl (lv_at hl 0 rfl) ?_
  refine lv_iload_n hx hb dL_kindAt_3 rfl (lv_at hl 1 rfl) ?_
  have hC := (K6_kindAt D g x l hl0 a e σ p1 r hr).ext _ (mrg_ones _ _ [cOut g qo out] (w6_adr g a e σ r.2.2))
  refine xcallA X (As := [.int p1]) (rest := [.int 0, .ref qo]) (st1 := [.int r.2.1, .int 0, .ref qo]) hC mw_X6_kindAt ml_L_34 ⟨(Nat.le_of_ble_eq_true rfl), (Nat.le_of_ble_eq_true rfl)⟩ hP hD hS rfl 0 rfl rfl rfl hl.1 rfl (Nat.le_of_ble_eq_true rfl) dL_kindAt_4 ⟨(Nat.le_of_ble_eq_true rfl), (Nat.le_of_ble_eq_true rfl)⟩ rfl (fun t1 H locs hP hD hS => ?_) (fun t1 H locs q ce hP hD hS hq hqv hqc => ?_)
  · have h := o_t t1 h
    refine lv_i2l (v := Int32.toInt64 r.2.1) hx hb dL_kindAt_7 rfl ?_
    refine mlst X (n := 1) (ws1 := w6 g a e r.2.2 ++ [cOut g qo (vp_updL out (Int32.toNatClampNeg 0) (Int32.toInt64 r.2.1))]) hP hD hS 71 rfl (by decide) dL_kindAt_8 rfl (fun H locs hP hD hS => ?_)
    refine lv_goto (tgt := 15) hx hb dL_kindAt_9 (by decide) ?_
    refine lv_iconst (v := 0) hx hb dL_kindAt_15 (by decide) ?_
    cases h
    exact fin _ _ _ _ _ _ (Nat.le_of_ble_eq_true rfl) (Nat.le_of_ble_eq_true rfl) hP hS dL_kindAt_16
  · have h := o_f t1 h
    by_cases b3 : r.1 = 2
    · have h := o_t b3 h
      rw [b3] at hqc
      refine vx_catch (E := exN 2) (name := exN 2) hown [] ⟨0, 9, 12, 13⟩ [] (htab.trans rfl) (fun z hz => nomatch hz) (by decide) (by decide) (hts _ clL_2) (va_Nw.use rfl (hE.2.2.2.2.2.2.2.2.1 _ (by decide))) hq hqv hqc ?_
      refine lv_astore_n (lv' := [(3, .ref q), (0, .ref (a 0)), (1, .int p1), (2, .ref qo)]) hx hb dL_kindAt_12 rfl hl (by decide) rfl (fun ls hl => ?_)
      refine lv_iconst (v := 1) hx hb dL_kindAt_13 (by decide) ?_
      cases h
      exact fin _ _ _ _ _ _ (Nat.le_of_ble_eq_true rfl) (Nat.le_of_ble_eq_true rfl) hP hS dL_kindAt_14
    · have h := o_f b3 h
      cases h
def h_value (σ : S6) (p1 : Int32) (p2 : Int32) (out : Nat → Int64) : Option (Int32 × S6 × (Nat → Int64)) := (s6_value σ p1 p2).bind fun r => if r.1 = 0 then some (0, r.2.2, vp_updL out (Int32.toNatClampNeg 0) (r.2.1)) else if r.1 = 2 then some (1, r.2.2, out) else if r.1 = 4 then some (2, r.2.2, out) else none
set_option maxHeartbeats 4000000 in
set_option maxRecDepth 100000 in
theorem H_value (D : va_G) (g : Nat → ClassId) (x : Xd) (l : Launch) (hl0 : l.stackTraces = false) (a : Nat → Nat) (e : Nat → Nat → Nat) (qo : Nat) (σ : S6) (p1 : Int32) (p2 : Int32) (out : Nat → Int64) (R : Int32 × S6 × (Nat → Int64)) (h : h_value σ p1 p2 out = some R) : CnM D g x l yL_value cL_value 5 [(0, 9, 12, 13), (0, 9, 16, 24)] 9 155 3 [.ref (a 0), .int p1, .int p2, .ref qo] (w6 g a e σ ++ [cOut g qo out]) (w6 g a e R.2.1 ++ [cOut g qo R.2.2]) (some (.int R.1)) := by
  refine CnM.mk (by decide +kernel) (Nat.le_of_ble_eq_true rfl) (fun p e9 s m args below meth c A Q ls X htab hD hP hS fin hl => ?_)
  obtain ⟨hx, hb, hml, -, -, hown, hts, hK, hA, hE⟩ := id X
  have hl : lv_has ls 5 [(0, .ref (a 0)), (1, .int p1), (2, .int p2), (3, .ref qo)] := hl
  obtain ⟨r, hr, h⟩ := o_b h
  refine lv_aload_n hx hb dL_value_0 rfl (lv_at hl 3 rfl) ?_
  refine lv_iconst (v := 0) hx hb dL_value_1 (by decide) ?_
  refine lv_aload_n hx hb dL_value_2 rfl (lv_at hl 0 rfl) ?_
  refine lv_iload_n hx hb dL_value_3 rfl (lv_at hl 1 rfl) ?_
  refine lv_iload_n hx hb dL_value_4 rfl (lv_at hl 2 rfl) ?_
  have hC := (K6_value D g x l hl0 a e σ p1 p2 r hr).ext _ (mrg_ones _ _ [cOut g qo out] (w6_adr g a e σ r.2.2))
  refine xcallA X (As := [.int p1, .int p2]) (rest := [.int 0, .ref qo]) (st1 := [.long r.2.1, .int 0, .ref qo]) hC mw_X6_value ml_L_37 ⟨(Nat.le_of_ble_eq_true rfl), (Nat.le_of_ble_eq_true rfl)⟩ hP hD hS rfl 0 rfl rfl rfl hl.1 rfl (Nat.le_of_ble_eq_true rfl) dL_value_5 ⟨(Nat.le_of_ble_eq_true rfl), (Nat.le_of_ble_eq_true rfl)⟩ rfl (fun t1 H locs hP hD hS => ?_) (fun t1 H locs q ce hP hD hS hq hqv hqc => ?_)
  · have h := o_t t1 h
    refine mlst X (n := 1) (ws1 := w6 g a e r.2.2 ++ [cOut g qo (vp_updL out (Int32.toNatClampNeg 0) (r.2.1))]) hP hD hS 71 rfl (by decide) dL_value_8 rfl (fun H locs hP hD hS => ?_)
    refine lv_goto (tgt := 20) hx hb dL_value_9 (by decide) ?_
    refine lv_iconst (v := 0) hx hb dL_value_20 (by decide) ?_
    cases h
    exact fin _ _ _ _ _ _ (Nat.le_of_ble_eq_true rfl) (Nat.le_of_ble_eq_true rfl) hP hS dL_value_21
  · have h := o_f t1 h
    by_cases b3 : r.1 = 2
    · have h := o_t b3 h
      rw [b3] at hqc
      refine vx_catch (E := exN 2) (name := exN 2) hown [] ⟨0, 9, 12, 13⟩ [⟨0, 9, 16, 24⟩] (htab.trans rfl) (fun z hz => nomatch hz) (by decide) (by decide) (hts _ clL_2) (va_Nw.use rfl (hE.2.2.2.2.2.2.2.2.1 _ (by decide))) hq hqv hqc ?_
      refine lv_astore (lv' := [(4, .ref q), (0, .ref (a 0)), (1, .int p1), (2, .int p2), (3, .ref qo)]) hx hb dL_value_12 hl (by decide) rfl (fun ls hl => ?_)
      refine lv_iconst (v := 1) hx hb dL_value_14 (by decide) ?_
      cases h
      exact fin _ _ _ _ _ _ (Nat.le_of_ble_eq_true rfl) (Nat.le_of_ble_eq_true rfl) hP hS dL_value_15
    · have h := o_f b3 h
      by_cases b4 : r.1 = 4
      · have h := o_t b4 h
        rw [b4] at hqc
        have hpass : ∀ z ∈ ([⟨0, 9, 12, 13⟩] : List Jvm.ClassFile.ExceptionTableEntry), covers z 5 = false ∨ (z.catchType ≠ 0 ∧ ∃ nm : String, (Cond.classLink RL z.catchType nm).before args s = true ∧ va_Nc (exN 4) nm s) := by
          intro z hz
          simp only [List.mem_cons, List.not_mem_nil, or_false] at hz
          subst hz
          exact Or.inr ⟨by decide, exN 2, hts _ clL_2, hE.2.2.2.2.2.2.2.2.2.1 _ (by decide) _ (by decide) (by decide)⟩
        refine vx_catch (E := exN 4) (name := exN 4) hown [⟨0, 9, 12, 13⟩] ⟨0, 9, 16, 24⟩ [] (htab.trans rfl) hpass (by decide) (by decide) (hts _ clL_4) (va_Nw.use rfl (hE.2.2.2.2.2.2.2.2.1 _ (by decide))) hq hqv hqc ?_
        refine lv_astore (lv' := [(4, .ref q), (0, .ref (a 0)), (1, .int p1), (2, .int p2), (3, .ref qo)]) hx hb dL_value_16 hl (by decide) rfl (fun ls hl => ?_)
        refine lv_iconst (v := 2) hx hb dL_value_18 (by decide) ?_
        cases h
        exact fin _ _ _ _ _ _ (Nat.le_of_ble_eq_true rfl) (Nat.le_of_ble_eq_true rfl) hP hS dL_value_19
      · have h := o_f b4 h
        cases h
def h_about (σ : S6) (p1 : Int32) (out : Nat → UInt64) : Option (Int32 × S6 × (Nat → UInt64)) := (s6_about σ p1).bind fun r => if r.1 = 0 then some (0, r.2.2, vf_upd out (Int32.toNatClampNeg 0) (r.2.1)) else if r.1 = 2 then some (1, r.2.2, out) else if r.1 = 4 then some (2, r.2.2, out) else none
set_option maxHeartbeats 4000000 in
set_option maxRecDepth 100000 in
theorem H_about (D : va_G) (g : Nat → ClassId) (x : Xd) (l : Launch) (hl0 : l.stackTraces = false) (a : Nat → Nat) (e : Nat → Nat → Nat) (qo : Nat) (σ : S6) (p1 : Int32) (out : Nat → UInt64) (R : Int32 × S6 × (Nat → UInt64)) (h : h_about σ p1 out = some R) : CnM D g x l yL_about cL_about 4 [(0, 8, 11, 13), (0, 8, 14, 24)] 9 158 2 [.ref (a 0), .int p1, .ref qo] (w6 g a e σ ++ [cOutD g qo out]) (w6 g a e R.2.1 ++ [cOutD g qo R.2.2]) (some (.int R.1)) := by
  refine CnM.mk (by decide +kernel) (Nat.le_of_ble_eq_true rfl) (fun p e9 s m args below meth c A Q ls X htab hD hP hS fin hl => ?_)
  obtain ⟨hx, hb, hml, -, -, hown, hts, hK, hA, hE⟩ := id X
  have hl : lv_has ls 4 [(0, .ref (a 0)), (1, .int p1), (2, .ref qo)] := hl
  obtain ⟨r, hr, h⟩ := o_b h
  refine lv_aload_n hx hb dL_about_0 rfl (lv_at hl 2 rfl) ?_
  refine lv_iconst (v := 0) hx hb dL_about_1 (by decide) ?_
  refine lv_aload_n hx hb dL_about_2 rfl (lv_at hl 0 rfl) ?_
  refine lv_iload_n hx hb dL_about_3 rfl (lv_at hl 1 rfl) ?_
  have hC := (K6_about D g x l hl0 a e σ p1 r hr).ext _ (mrg_ones _ _ [cOutD g qo out] (w6_adr g a e σ r.2.2))
  refine xcallA X (As := [.int p1]) (rest := [.int 0, .ref qo]) (st1 := [.double r.2.1, .int 0, .ref qo]) hC mw_X6_about ml_L_41 ⟨(Nat.le_of_ble_eq_true rfl), (Nat.le_of_ble_eq_true rfl)⟩ hP hD hS rfl 0 rfl rfl rfl hl.1 rfl (Nat.le_of_ble_eq_true rfl) dL_about_4 ⟨(Nat.le_of_ble_eq_true rfl), (Nat.le_of_ble_eq_true rfl)⟩ rfl (fun t1 H locs hP hD hS => ?_) (fun t1 H locs q ce hP hD hS hq hqv hqc => ?_)
  · have h := o_t t1 h
    refine mdst X (n := 1) (ws1 := w6 g a e r.2.2 ++ [cOutD g qo (vf_upd out (Int32.toNatClampNeg 0) (r.2.1))]) hP hD hS 71 rfl (by decide) dL_about_7 rfl (fun H locs hP hD hS => ?_)
    refine lv_goto (tgt := 17) hx hb dL_about_8 (by decide) ?_
    refine lv_iconst (v := 0) hx hb dL_about_17 (by decide) ?_
    cases h
    exact fin _ _ _ _ _ _ (Nat.le_of_ble_eq_true rfl) (Nat.le_of_ble_eq_true rfl) hP hS dL_about_18
  · have h := o_f t1 h
    by_cases b3 : r.1 = 2
    · have h := o_t b3 h
      rw [b3] at hqc
      refine vx_catch (E := exN 2) (name := exN 2) hown [] ⟨0, 8, 11, 13⟩ [⟨0, 8, 14, 24⟩] (htab.trans rfl) (fun z hz => nomatch hz) (by decide) (by decide) (hts _ clL_2) (va_Nw.use rfl (hE.2.2.2.2.2.2.2.2.1 _ (by decide))) hq hqv hqc ?_
      refine lv_astore_n (lv' := [(3, .ref q), (0, .ref (a 0)), (1, .int p1), (2, .ref qo)]) hx hb dL_about_11 rfl hl (by decide) rfl (fun ls hl => ?_)
      refine lv_iconst (v := 1) hx hb dL_about_12 (by decide) ?_
      cases h
      exact fin _ _ _ _ _ _ (Nat.le_of_ble_eq_true rfl) (Nat.le_of_ble_eq_true rfl) hP hS dL_about_13
    · have h := o_f b3 h
      by_cases b4 : r.1 = 4
      · have h := o_t b4 h
        rw [b4] at hqc
        have hpass : ∀ z ∈ ([⟨0, 8, 11, 13⟩] : List Jvm.ClassFile.ExceptionTableEntry), covers z 4 = false ∨ (z.catchType ≠ 0 ∧ ∃ nm : String, (Cond.classLink RL z.catchType nm).before args s = true ∧ va_Nc (exN 4) nm s) := by
          intro z hz
          simp only [List.mem_cons, List.not_mem_nil, or_false] at hz
          subst hz
          exact Or.inr ⟨by decide, exN 2, hts _ clL_2, hE.2.2.2.2.2.2.2.2.2.1 _ (by decide) _ (by decide) (by decide)⟩
        refine vx_catch (E := exN 4) (name := exN 4) hown [⟨0, 8, 11, 13⟩] ⟨0, 8, 14, 24⟩ [] (htab.trans rfl) hpass (by decide) (by decide) (hts _ clL_4) (va_Nw.use rfl (hE.2.2.2.2.2.2.2.2.1 _ (by decide))) hq hqv hqc ?_
        refine lv_astore_n (lv' := [(3, .ref q), (0, .ref (a 0)), (1, .int p1), (2, .ref qo)]) hx hb dL_about_14 rfl hl (by decide) rfl (fun ls hl => ?_)
        refine lv_iconst (v := 2) hx hb dL_about_15 (by decide) ?_
        cases h
        exact fin _ _ _ _ _ _ (Nat.le_of_ble_eq_true rfl) (Nat.le_of_ble_eq_true rfl) hP hS dL_about_16
      · have h := o_f b4 h
        cases h
def h_isMet (σ : S6) (p1 : Int32) (out : Nat → Int64) : Option (Int32 × S6 × (Nat → Int64)) := (s6_isMet σ p1).bind fun r => if r.1 = 0 then if r.2.1 = 0 then some (0, r.2.2, vp_updL out (Int32.toNatClampNeg 0) 0) else some (0, r.2.2, vp_updL out (Int32.toNatClampNeg 0) 1) else if r.1 = 1 then some (1, r.2.2, out) else none
set_option maxHeartbeats 4000000 in
set_option maxRecDepth 100000 in
theorem H_isMet (D : va_G) (g : Nat → ClassId) (x : Xd) (l : Launch) (hl0 : l.stackTraces = false) (a : Nat → Nat) (e : Nat → Nat → Nat) (qo : Nat) (σ : S6) (p1 : Int32) (out : Nat → Int64) (R : Int32 × S6 × (Nat → Int64)) (h : h_isMet σ p1 out = some R) : CnM D g x l yL_isMet cL_isMet 4 [(0, 16, 19, 19)] 8 153 1 [.ref (a 0), .int p1, .ref qo] (w6 g a e σ ++ [cOut g qo out]) (w6 g a e R.2.1 ++ [cOut g qo R.2.2]) (some (.int R.1)) := by
  refine CnM.mk (by decide +kernel) (Nat.le_of_ble_eq_true rfl) (fun p e9 s m args below meth c A Q ls X htab hD hP hS fin hl => ?_)
  obtain ⟨hx, hb, hml, -, -, hown, hts, hK, hA, hE⟩ := id X
  have hl : lv_has ls 4 [(0, .ref (a 0)), (1, .int p1), (2, .ref qo)] := hl
  obtain ⟨r, hr, h⟩ := o_b h
  refine lv_aload_n hx hb dL_isMet_0 rfl (lv_at hl 2 rfl) ?_
  refine lv_iconst (v := 0) hx hb dL_isMet_1 (by decide) ?_
  refine lv_aload_n hx hb dL_isMet_2 rfl (lv_at hl 0 rfl) ?_
  refine lv_iload_n hx hb dL_isMet_3 rfl (lv_at hl 1 rfl) ?_
  have hC := (K6_isMet D g x l hl0 a e σ p1 r hr).ext _ (mrg_ones _ _ [cOut g qo out] (w6_adr g a e σ r.2.2))
  refine xcallA X (As := [.int p1]) (rest := [.int 0, .ref qo]) (st1 := [.int r.2.1, .int 0, .ref qo]) hC mw_X6_isMet ml_L_45 ⟨(Nat.le_of_ble_eq_true rfl), (Nat.le_of_ble_eq_true rfl)⟩ hP hD hS rfl 0 rfl rfl rfl hl.1 rfl (Nat.le_of_ble_eq_true rfl) dL_isMet_4 ⟨(Nat.le_of_ble_eq_true rfl), (Nat.le_of_ble_eq_true rfl)⟩ rfl (fun t1 H locs hP hD hS => ?_) (fun t1 H locs q ce hP hD hS hq hqv hqc => ?_)
  · have h := o_t t1 h
    refine lv_if_eq (tgt := 14) hx hb dL_isMet_7 (by decide) (fun b2 => ?_) (fun b2 => ?_)
    · have h := o_t b2 h
      refine lv_lconst (v := 0) hx hb dL_isMet_14 (by decide) ?_
      refine mlst X (n := 1) (ws1 := w6 g a e r.2.2 ++ [cOut g qo (vp_updL out (Int32.toNatClampNeg 0) 0)]) hP hD hS 71 rfl (by decide) dL_isMet_15 rfl (fun H locs hP hD hS => ?_)
      refine lv_goto (tgt := 22) hx hb dL_isMet_16 (by decide) ?_
      refine lv_iconst (v := 0) hx hb dL_isMet_22 (by decide) ?_
      cases h
      exact fin _ _ _ _ _ _ (Nat.le_of_ble_eq_true rfl) (Nat.le_of_ble_eq_true rfl) hP hS dL_isMet_23
    · have h := o_f b2 h
      refine lv_lconst (v := 1) hx hb dL_isMet_10 (by decide) ?_
      refine lv_goto (tgt := 15) hx hb dL_isMet_11 (by decide) ?_
      refine mlst X (n := 1) (ws1 := w6 g a e r.2.2 ++ [cOut g qo (vp_updL out (Int32.toNatClampNeg 0) 1)]) hP hD hS 71 rfl (by decide) dL_isMet_15 rfl (fun H locs hP hD hS => ?_)
      refine lv_goto (tgt := 22) hx hb dL_isMet_16 (by decide) ?_
      refine lv_iconst (v := 0) hx hb dL_isMet_22 (by decide) ?_
      cases h
      exact fin _ _ _ _ _ _ (Nat.le_of_ble_eq_true rfl) (Nat.le_of_ble_eq_true rfl) hP hS dL_isMet_23
  · have h := o_f t1 h
    by_cases b3 : r.1 = 1
    · have h := o_t b3 h
      rw [b3] at hqc
      refine vx_catch (E := exN 1) (name := exN 1) hown [] ⟨0, 16, 19, 19⟩ [] (htab.trans rfl) (fun z hz => nomatch hz) (by decide) (by decide) (hts _ clL_1) (va_Nw.use rfl (hE.2.2.2.2.2.2.2.2.1 _ (by decide))) hq hqv hqc ?_
      refine lv_astore_n (lv' := [(3, .ref q), (0, .ref (a 0)), (1, .int p1), (2, .ref qo)]) hx hb dL_isMet_19 rfl hl (by decide) rfl (fun ls hl => ?_)
      refine lv_iconst (v := 1) hx hb dL_isMet_20 (by decide) ?_
      cases h
      exact fin _ _ _ _ _ _ (Nat.le_of_ble_eq_true rfl) (Nat.le_of_ble_eq_true rfl) hP hS dL_isMet_21
    · have h := o_f b3 h
      cases h
def h_nextPole (σ : S6) (p1 : Int32) (out : Nat → Int64) : Option (Int32 × S6 × (Nat → Int64)) := (s6_nextPole σ p1).bind fun r => if r.1 = 0 then some (0, r.2.2, vp_updL out (Int32.toNatClampNeg 0) (Int32.toInt64 r.2.1)) else if r.1 = 2 then some (1, r.2.2, out) else if r.1 = 4 then some (2, r.2.2, out) else none
set_option maxHeartbeats 4000000 in
set_option maxRecDepth 100000 in
theorem H_nextPole (D : va_G) (g : Nat → ClassId) (x : Xd) (l : Launch) (hl0 : l.stackTraces = false) (a : Nat → Nat) (e : Nat → Nat → Nat) (qo : Nat) (σ : S6) (p1 : Int32) (out : Nat → Int64) (R : Int32 × S6 × (Nat → Int64)) (h : h_nextPole σ p1 out = some R) : CnM D g x l yL_nextPole cL_nextPole 4 [(0, 9, 12, 13), (0, 9, 15, 24)] 9 155 2 [.ref (a 0), .int p1, .ref qo] (w6 g a e σ ++ [cOut g qo out]) (w6 g a e R.2.1 ++ [cOut g qo R.2.2]) (some (.int R.1)) := by
  refine CnM.mk (by decide +kernel) (Nat.le_of_ble_eq_true rfl) (fun p e9 s m args below meth c A Q ls X htab hD hP hS fin hl => ?_)
  obtain ⟨hx, hb, hml, -, -, hown, hts, hK, hA, hE⟩ := id X
  have hl : lv_has ls 4 [(0, .ref (a 0)), (1, .int p1), (2, .ref qo)] := hl
  obtain ⟨r, hr, h⟩ := o_b h
  refine lv_aload_n hx hb dL_nextPole_0 rfl (lv_at hl 2 rfl) ?_
  refine lv_iconst (v := 0) hx hb dL_nextPole_1 (by decide) ?_
  refine lv_aload_n hx hb dL_nextPole_2 rfl (lv_at hl 0 rfl) ?_
  refine lv_iload_n hx hb dL_nextPole_3 rfl (lv_at hl 1 rfl) ?_
  have hC := (K6_nextPole D g x l hl0 a e σ p1 r hr).ext _ (mrg_ones _ _ [cOut g qo out] (w6_adr g a e σ r.2.2))
  refine xcallA X (As := [.int p1]) (rest := [.int 0, .ref qo]) (st1 := [.int r.2.1, .int 0, .ref qo]) hC mw_X6_nextPole ml_L_49 ⟨(Nat.le_of_ble_eq_true rfl), (Nat.le_of_ble_eq_true rfl)⟩ hP hD hS rfl 0 rfl rfl rfl hl.1 rfl (Nat.le_of_ble_eq_true rfl) dL_nextPole_4 ⟨(Nat.le_of_ble_eq_true rfl), (Nat.le_of_ble_eq_true rfl)⟩ rfl (fun t1 H locs hP hD hS => ?_) (fun t1 H locs q ce hP hD hS hq hqv hqc => ?_)
  · have h := o_t t1 h
    refine lv_i2l (v := Int32.toInt64 r.2.1) hx hb dL_nextPole_7 rfl ?_
    refine mlst X (n := 1) (ws1 := w6 g a e r.2.2 ++ [cOut g qo (vp_updL out (Int32.toNatClampNeg 0) (Int32.toInt64 r.2.1))]) hP hD hS 71 rfl (by decide) dL_nextPole_8 rfl (fun H locs hP hD hS => ?_)
    refine lv_goto (tgt := 18) hx hb dL_nextPole_9 (by decide) ?_
    refine lv_iconst (v := 0) hx hb dL_nextPole_18 (by decide) ?_
    cases h
    exact fin _ _ _ _ _ _ (Nat.le_of_ble_eq_true rfl) (Nat.le_of_ble_eq_true rfl) hP hS dL_nextPole_19
  · have h := o_f t1 h
    by_cases b3 : r.1 = 2
    · have h := o_t b3 h
      rw [b3] at hqc
      refine vx_catch (E := exN 2) (name := exN 2) hown [] ⟨0, 9, 12, 13⟩ [⟨0, 9, 15, 24⟩] (htab.trans rfl) (fun z hz => nomatch hz) (by decide) (by decide) (hts _ clL_2) (va_Nw.use rfl (hE.2.2.2.2.2.2.2.2.1 _ (by decide))) hq hqv hqc ?_
      refine lv_astore_n (lv' := [(3, .ref q), (0, .ref (a 0)), (1, .int p1), (2, .ref qo)]) hx hb dL_nextPole_12 rfl hl (by decide) rfl (fun ls hl => ?_)
      refine lv_iconst (v := 1) hx hb dL_nextPole_13 (by decide) ?_
      cases h
      exact fin _ _ _ _ _ _ (Nat.le_of_ble_eq_true rfl) (Nat.le_of_ble_eq_true rfl) hP hS dL_nextPole_14
    · have h := o_f b3 h
      by_cases b4 : r.1 = 4
      · have h := o_t b4 h
        rw [b4] at hqc
        have hpass : ∀ z ∈ ([⟨0, 9, 12, 13⟩] : List Jvm.ClassFile.ExceptionTableEntry), covers z 4 = false ∨ (z.catchType ≠ 0 ∧ ∃ nm : String, (Cond.classLink RL z.catchType nm).before args s = true ∧ va_Nc (exN 4) nm s) := by
          intro z hz
          simp only [List.mem_cons, List.not_mem_nil, or_false] at hz
          subst hz
          exact Or.inr ⟨by decide, exN 2, hts _ clL_2, hE.2.2.2.2.2.2.2.2.2.1 _ (by decide) _ (by decide) (by decide)⟩
        refine vx_catch (E := exN 4) (name := exN 4) hown [⟨0, 9, 12, 13⟩] ⟨0, 9, 15, 24⟩ [] (htab.trans rfl) hpass (by decide) (by decide) (hts _ clL_4) (va_Nw.use rfl (hE.2.2.2.2.2.2.2.2.1 _ (by decide))) hq hqv hqc ?_
        refine lv_astore_n (lv' := [(3, .ref q), (0, .ref (a 0)), (1, .int p1), (2, .ref qo)]) hx hb dL_nextPole_15 rfl hl (by decide) rfl (fun ls hl => ?_)
        refine lv_iconst (v := 2) hx hb dL_nextPole_16 (by decide) ?_
        cases h
        exact fin _ _ _ _ _ _ (Nat.le_of_ble_eq_true rfl) (Nat.le_of_ble_eq_true rfl) hP hS dL_nextPole_17
      · have h := o_f b4 h
        cases h
def h_extreme (σ : S6) (p1 : Int32) (out : Nat → Int64) : Option (Int32 × S6 × (Nat → Int64)) := (s6_extreme σ p1).bind fun r => if r.1 = 0 then some (0, r.2.2, vp_updL out (Int32.toNatClampNeg 0) (Int32.toInt64 r.2.1)) else if r.1 = 4 then some (1, r.2.2, out) else none
set_option maxHeartbeats 4000000 in
set_option maxRecDepth 100000 in
theorem H_extreme (D : va_G) (g : Nat → ClassId) (x : Xd) (l : Launch) (hl0 : l.stackTraces = false) (a : Nat → Nat) (e : Nat → Nat → Nat) (qo : Nat) (σ : S6) (p1 : Int32) (out : Nat → Int64) (R : Int32 × S6 × (Nat → Int64)) (h : h_extreme σ p1 out = some R) : CnM D g x l yL_extreme cL_extreme 4 [(0, 9, 12, 24)] 7 136 1 [.ref (a 0), .int p1, .ref qo] (w6 g a e σ ++ [cOut g qo out]) (w6 g a e R.2.1 ++ [cOut g qo R.2.2]) (some (.int R.1)) := by
  refine CnM.mk (by decide +kernel) (Nat.le_of_ble_eq_true rfl) (fun p e9 s m args below meth c A Q ls X htab hD hP hS fin hl => ?_)
  obtain ⟨hx, hb, hml, -, -, hown, hts, hK, hA, hE⟩ := id X
  have hl : lv_has ls 4 [(0, .ref (a 0)), (1, .int p1), (2, .ref qo)] := hl
  obtain ⟨r, hr, h⟩ := o_b h
  refine lv_aload_n hx hb dL_extreme_0 rfl (lv_at hl 2 rfl) ?_
  refine lv_iconst (v := 0) hx hb dL_extreme_1 (by decide) ?_
  refine lv_aload_n hx hb dL_extreme_2 rfl (lv_at hl 0 rfl) ?_
  refine lv_iload_n hx hb dL_extreme_3 rfl (lv_at hl 1 rfl) ?_
  have hC := (K6_extreme D g x l hl0 a e σ p1 r hr).ext _ (mrg_ones _ _ [cOut g qo out] (w6_adr g a e σ r.2.2))
  refine xcallA X (As := [.int p1]) (rest := [.int 0, .ref qo]) (st1 := [.int r.2.1, .int 0, .ref qo]) hC mw_X6_extreme ml_L_52 ⟨(Nat.le_of_ble_eq_true rfl), (Nat.le_of_ble_eq_true rfl)⟩ hP hD hS rfl 0 rfl rfl rfl hl.1 rfl (Nat.le_of_ble_eq_true rfl) dL_extreme_4 ⟨(Nat.le_of_ble_eq_true rfl), (Nat.le_of_ble_eq_true rfl)⟩ rfl (fun t1 H locs hP hD hS => ?_) (fun t1 H locs q ce hP hD hS hq hqv hqc => ?_)
  · have h := o_t t1 h
    refine lv_i2l (v := Int32.toInt64 r.2.1) hx hb dL_extreme_7 rfl ?_
    refine mlst X (n := 1) (ws1 := w6 g a e r.2.2 ++ [cOut g qo (vp_updL out (Int32.toNatClampNeg 0) (Int32.toInt64 r.2.1))]) hP hD hS 71 rfl (by decide) dL_extreme_8 rfl (fun H locs hP hD hS => ?_)
    refine lv_goto (tgt := 15) hx hb dL_extreme_9 (by decide) ?_
    refine lv_iconst (v := 0) hx hb dL_extreme_15 (by decide) ?_
    cases h
    exact fin _ _ _ _ _ _ (Nat.le_of_ble_eq_true rfl) (Nat.le_of_ble_eq_true rfl) hP hS dL_extreme_16
  · have h := o_f t1 h
    by_cases b3 : r.1 = 4
    · have h := o_t b3 h
      rw [b3] at hqc
      refine vx_catch (E := exN 4) (name := exN 4) hown [] ⟨0, 9, 12, 24⟩ [] (htab.trans rfl) (fun z hz => nomatch hz) (by decide) (by decide) (hts _ clL_4) (va_Nw.use rfl (hE.2.2.2.2.2.2.2.2.1 _ (by decide))) hq hqv hqc ?_
      refine lv_astore_n (lv' := [(3, .ref q), (0, .ref (a 0)), (1, .int p1), (2, .ref qo)]) hx hb dL_extreme_12 rfl hl (by decide) rfl (fun ls hl => ?_)
      refine lv_iconst (v := 1) hx hb dL_extreme_13 (by decide) ?_
      cases h
      exact fin _ _ _ _ _ _ (Nat.le_of_ble_eq_true rfl) (Nat.le_of_ble_eq_true rfl) hP hS dL_extreme_14
    · have h := o_f b3 h
      cases h
def h_row (σ : S6) (p1 : Int32) (p2 : Int32) (p3 : Int32) (out : Nat → Int64) : Option (Int32 × S6 × (Nat → Int64)) := (s6_row σ p1 p2 p3).bind fun r => if r.1 = 0 then some (0, r.2.2, vp_updL out (Int32.toNatClampNeg 0) (r.2.1)) else if r.1 = 1 then some (1, r.2.2, out) else if r.1 = 2 then some (2, r.2.2, out) else if r.1 = 3 then some (3, r.2.2, out) else none
set_option maxHeartbeats 4000000 in
set_option maxRecDepth 100000 in
theorem H_row (D : va_G) (g : Nat → ClassId) (x : Xd) (l : Launch) (hl0 : l.stackTraces = false) (a : Nat → Nat) (e : Nat → Nat → Nat) (qo : Nat) (σ : S6) (p1 : Int32) (p2 : Int32) (p3 : Int32) (out : Nat → Int64) (R : Int32 × S6 × (Nat → Int64)) (h : h_row σ p1 p2 p3 out = some R) : CnM D g x l yL_row cL_row 6 [(0, 11, 14, 19), (0, 11, 18, 13), (0, 11, 22, 60)] 9 189 4 [.ref (a 0), .int p1, .int p2, .int p3, .ref qo] (w6 g a e σ ++ [cOut g qo out]) (w6 g a e R.2.1 ++ [cOut g qo R.2.2]) (some (.int R.1)) := by
  refine CnM.mk (by decide +kernel) (Nat.le_of_ble_eq_true rfl) (fun p e9 s m args below meth c A Q ls X htab hD hP hS fin hl => ?_)
  obtain ⟨hx, hb, hml, -, -, hown, hts, hK, hA, hE⟩ := id X
  have hl : lv_has ls 6 [(0, .ref (a 0)), (1, .int p1), (2, .int p2), (3, .int p3), (4, .ref qo)] := hl
  obtain ⟨r, hr, h⟩ := o_b h
  refine lv_aload hx hb dL_row_0 (lv_at hl 4 rfl) ?_
  refine lv_iconst (v := 0) hx hb dL_row_2 (by decide) ?_
  refine lv_aload_n hx hb dL_row_3 rfl (lv_at hl 0 rfl) ?_
  refine lv_iload_n hx hb dL_row_4 rfl (lv_at hl 1 rfl) ?_
  refine lv_iload_n hx hb dL_row_5 rfl (lv_at hl 2 rfl) ?_
  refine lv_iload_n hx hb dL_row_6 rfl (lv_at hl 3 rfl) ?_
  have hC := (K6_row D g x l hl0 a e σ p1 p2 p3 r hr).ext _ (mrg_ones _ _ [cOut g qo out] (w6_adr g a e σ r.2.2))
  refine xcallA X (As := [.int p1, .int p2, .int p3]) (rest := [.int 0, .ref qo]) (st1 := [.long r.2.1, .int 0, .ref qo]) hC mw_X6_row ml_L_56 ⟨(Nat.le_of_ble_eq_true rfl), (Nat.le_of_ble_eq_true rfl)⟩ hP hD hS rfl 0 rfl rfl rfl hl.1 rfl (Nat.le_of_ble_eq_true rfl) dL_row_7 ⟨(Nat.le_of_ble_eq_true rfl), (Nat.le_of_ble_eq_true rfl)⟩ rfl (fun t1 H locs hP hD hS => ?_) (fun t1 H locs q ce hP hD hS hq hqv hqc => ?_)
  · have h := o_t t1 h
    refine mlst X (n := 1) (ws1 := w6 g a e r.2.2 ++ [cOut g qo (vp_updL out (Int32.toNatClampNeg 0) (r.2.1))]) hP hD hS 71 rfl (by decide) dL_row_10 rfl (fun H locs hP hD hS => ?_)
    refine lv_goto (tgt := 26) hx hb dL_row_11 (by decide) ?_
    refine lv_iconst (v := 0) hx hb dL_row_26 (by decide) ?_
    cases h
    exact fin _ _ _ _ _ _ (Nat.le_of_ble_eq_true rfl) (Nat.le_of_ble_eq_true rfl) hP hS dL_row_27
  · have h := o_f t1 h
    by_cases b3 : r.1 = 1
    · have h := o_t b3 h
      rw [b3] at hqc
      refine vx_catch (E := exN 1) (name := exN 1) hown [] ⟨0, 11, 14, 19⟩ [⟨0, 11, 18, 13⟩, ⟨0, 11, 22, 60⟩] (htab.trans rfl) (fun z hz => nomatch hz) (by decide) (by decide) (hts _ clL_1) (va_Nw.use rfl (hE.2.2.2.2.2.2.2.2.1 _ (by decide))) hq hqv hqc ?_
      refine lv_astore (lv' := [(5, .ref q), (0, .ref (a 0)), (1, .int p1), (2, .int p2), (3, .int p3), (4, .ref qo)]) hx hb dL_row_14 hl (by decide) rfl (fun ls hl => ?_)
      refine lv_iconst (v := 1) hx hb dL_row_16 (by decide) ?_
      cases h
      exact fin _ _ _ _ _ _ (Nat.le_of_ble_eq_true rfl) (Nat.le_of_ble_eq_true rfl) hP hS dL_row_17
    · have h := o_f b3 h
      by_cases b4 : r.1 = 2
      · have h := o_t b4 h
        rw [b4] at hqc
        have hpass : ∀ z ∈ ([⟨0, 11, 14, 19⟩] : List Jvm.ClassFile.ExceptionTableEntry), covers z 7 = false ∨ (z.catchType ≠ 0 ∧ ∃ nm : String, (Cond.classLink RL z.catchType nm).before args s = true ∧ va_Nc (exN 2) nm s) := by
          intro z hz
          simp only [List.mem_cons, List.not_mem_nil, or_false] at hz
          subst hz
          exact Or.inr ⟨by decide, exN 1, hts _ clL_1, hE.2.2.2.2.2.2.2.2.2.1 _ (by decide) _ (by decide) (by decide)⟩
        refine vx_catch (E := exN 2) (name := exN 2) hown [⟨0, 11, 14, 19⟩] ⟨0, 11, 18, 13⟩ [⟨0, 11, 22, 60⟩] (htab.trans rfl) hpass (by decide) (by decide) (hts _ clL_2) (va_Nw.use rfl (hE.2.2.2.2.2.2.2.2.1 _ (by decide))) hq hqv hqc ?_
        refine lv_astore (lv' := [(5, .ref q), (0, .ref (a 0)), (1, .int p1), (2, .int p2), (3, .int p3), (4, .ref qo)]) hx hb dL_row_18 hl (by decide) rfl (fun ls hl => ?_)
        refine lv_iconst (v := 2) hx hb dL_row_20 (by decide) ?_
        cases h
        exact fin _ _ _ _ _ _ (Nat.le_of_ble_eq_true rfl) (Nat.le_of_ble_eq_true rfl) hP hS dL_row_21
      · have h := o_f b4 h
        by_cases b5 : r.1 = 3
        · have h := o_t b5 h
          rw [b5] at hqc
          have hpass : ∀ z ∈ ([⟨0, 11, 14, 19⟩, ⟨0, 11, 18, 13⟩] : List Jvm.ClassFile.ExceptionTableEntry), covers z 7 = false ∨ (z.catchType ≠ 0 ∧ ∃ nm : String, (Cond.classLink RL z.catchType nm).before args s = true ∧ va_Nc (exN 3) nm s) := by
            intro z hz
            simp only [List.mem_cons, List.not_mem_nil, or_false] at hz
            rcases hz with rfl | rfl
            · exact Or.inr ⟨by decide, exN 1, hts _ clL_1, hE.2.2.2.2.2.2.2.2.2.1 _ (by decide) _ (by decide) (by decide)⟩
            · exact Or.inr ⟨by decide, exN 2, hts _ clL_2, hE.2.2.2.2.2.2.2.2.2.1 _ (by decide) _ (by decide) (by decide)⟩
          refine vx_catch (E := exN 3) (name := exN 3) hown [⟨0, 11, 14, 19⟩, ⟨0, 11, 18, 13⟩] ⟨0, 11, 22, 60⟩ [] (htab.trans rfl) hpass (by decide) (by decide) (hts _ clL_3) (va_Nw.use rfl (hE.2.2.2.2.2.2.2.2.1 _ (by decide))) hq hqv hqc ?_
          refine lv_astore (lv' := [(5, .ref q), (0, .ref (a 0)), (1, .int p1), (2, .int p2), (3, .int p3), (4, .ref qo)]) hx hb dL_row_22 hl (by decide) rfl (fun ls hl => ?_)
          refine lv_iconst (v := 3) hx hb dL_row_24 (by decide) ?_
          cases h
          exact fin _ _ _ _ _ _ (Nat.le_of_ble_eq_true rfl) (Nat.le_of_ble_eq_true rfl) hP hS dL_row_25
        · have h := o_f b5 h
          cases h
def h_slope (σ : S6) (p1 : Int32) (p2 : Int32) (out : Nat → Int64) : Option (Int32 × S6 × (Nat → Int64)) := (s6_slope σ p1 p2).bind fun r => if r.1 = 0 then some (0, r.2.2, vp_updL out (Int32.toNatClampNeg 0) (r.2.1)) else if r.1 = 1 then some (1, r.2.2, out) else if r.1 = 2 then some (2, r.2.2, out) else if r.1 = 3 then some (3, r.2.2, out) else none
set_option maxHeartbeats 4000000 in
set_option maxRecDepth 100000 in
theorem H_slope (D : va_G) (g : Nat → ClassId) (x : Xd) (l : Launch) (hl0 : l.stackTraces = false) (a : Nat → Nat) (e : Nat → Nat → Nat) (qo : Nat) (σ : S6) (p1 : Int32) (p2 : Int32) (out : Nat → Int64) (R : Int32 × S6 × (Nat → Int64)) (h : h_slope σ p1 p2 out = some R) : CnM D g x l yL_slope cL_slope 5 [(0, 9, 12, 19), (0, 9, 16, 13), (0, 9, 20, 60)] 9 187 3 [.ref (a 0), .int p1, .int p2, .ref qo] (w6 g a e σ ++ [cOut g qo out]) (w6 g a e R.2.1 ++ [cOut g qo R.2.2]) (some (.int R.1)) := by
  refine CnM.mk (by decide +kernel) (Nat.le_of_ble_eq_true rfl) (fun p e9 s m args below meth c A Q ls X htab hD hP hS fin hl => ?_)
  obtain ⟨hx, hb, hml, -, -, hown, hts, hK, hA, hE⟩ := id X
  have hl : lv_has ls 5 [(0, .ref (a 0)), (1, .int p1), (2, .int p2), (3, .ref qo)] := hl
  obtain ⟨r, hr, h⟩ := o_b h
  refine lv_aload_n hx hb dL_slope_0 rfl (lv_at hl 3 rfl) ?_
  refine lv_iconst (v := 0) hx hb dL_slope_1 (by decide) ?_
  refine lv_aload_n hx hb dL_slope_2 rfl (lv_at hl 0 rfl) ?_
  refine lv_iload_n hx hb dL_slope_3 rfl (lv_at hl 1 rfl) ?_
  refine lv_iload_n hx hb dL_slope_4 rfl (lv_at hl 2 rfl) ?_
  have hC := (K6_slope D g x l hl0 a e σ p1 p2 r hr).ext _ (mrg_ones _ _ [cOut g qo out] (w6_adr g a e σ r.2.2))
  refine xcallA X (As := [.int p1, .int p2]) (rest := [.int 0, .ref qo]) (st1 := [.long r.2.1, .int 0, .ref qo]) hC mw_X6_slope ml_L_62 ⟨(Nat.le_of_ble_eq_true rfl), (Nat.le_of_ble_eq_true rfl)⟩ hP hD hS rfl 0 rfl rfl rfl hl.1 rfl (Nat.le_of_ble_eq_true rfl) dL_slope_5 ⟨(Nat.le_of_ble_eq_true rfl), (Nat.le_of_ble_eq_true rfl)⟩ rfl (fun t1 H locs hP hD hS => ?_) (fun t1 H locs q ce hP hD hS hq hqv hqc => ?_)
  · have h := o_t t1 h
    refine mlst X (n := 1) (ws1 := w6 g a e r.2.2 ++ [cOut g qo (vp_updL out (Int32.toNatClampNeg 0) (r.2.1))]) hP hD hS 71 rfl (by decide) dL_slope_8 rfl (fun H locs hP hD hS => ?_)
    refine lv_goto (tgt := 24) hx hb dL_slope_9 (by decide) ?_
    refine lv_iconst (v := 0) hx hb dL_slope_24 (by decide) ?_
    cases h
    exact fin _ _ _ _ _ _ (Nat.le_of_ble_eq_true rfl) (Nat.le_of_ble_eq_true rfl) hP hS dL_slope_25
  · have h := o_f t1 h
    by_cases b3 : r.1 = 1
    · have h := o_t b3 h
      rw [b3] at hqc
      refine vx_catch (E := exN 1) (name := exN 1) hown [] ⟨0, 9, 12, 19⟩ [⟨0, 9, 16, 13⟩, ⟨0, 9, 20, 60⟩] (htab.trans rfl) (fun z hz => nomatch hz) (by decide) (by decide) (hts _ clL_1) (va_Nw.use rfl (hE.2.2.2.2.2.2.2.2.1 _ (by decide))) hq hqv hqc ?_
      refine lv_astore (lv' := [(4, .ref q), (0, .ref (a 0)), (1, .int p1), (2, .int p2), (3, .ref qo)]) hx hb dL_slope_12 hl (by decide) rfl (fun ls hl => ?_)
      refine lv_iconst (v := 1) hx hb dL_slope_14 (by decide) ?_
      cases h
      exact fin _ _ _ _ _ _ (Nat.le_of_ble_eq_true rfl) (Nat.le_of_ble_eq_true rfl) hP hS dL_slope_15
    · have h := o_f b3 h
      by_cases b4 : r.1 = 2
      · have h := o_t b4 h
        rw [b4] at hqc
        have hpass : ∀ z ∈ ([⟨0, 9, 12, 19⟩] : List Jvm.ClassFile.ExceptionTableEntry), covers z 5 = false ∨ (z.catchType ≠ 0 ∧ ∃ nm : String, (Cond.classLink RL z.catchType nm).before args s = true ∧ va_Nc (exN 2) nm s) := by
          intro z hz
          simp only [List.mem_cons, List.not_mem_nil, or_false] at hz
          subst hz
          exact Or.inr ⟨by decide, exN 1, hts _ clL_1, hE.2.2.2.2.2.2.2.2.2.1 _ (by decide) _ (by decide) (by decide)⟩
        refine vx_catch (E := exN 2) (name := exN 2) hown [⟨0, 9, 12, 19⟩] ⟨0, 9, 16, 13⟩ [⟨0, 9, 20, 60⟩] (htab.trans rfl) hpass (by decide) (by decide) (hts _ clL_2) (va_Nw.use rfl (hE.2.2.2.2.2.2.2.2.1 _ (by decide))) hq hqv hqc ?_
        refine lv_astore (lv' := [(4, .ref q), (0, .ref (a 0)), (1, .int p1), (2, .int p2), (3, .ref qo)]) hx hb dL_slope_16 hl (by decide) rfl (fun ls hl => ?_)
        refine lv_iconst (v := 2) hx hb dL_slope_18 (by decide) ?_
        cases h
        exact fin _ _ _ _ _ _ (Nat.le_of_ble_eq_true rfl) (Nat.le_of_ble_eq_true rfl) hP hS dL_slope_19
      · have h := o_f b4 h
        by_cases b5 : r.1 = 3
        · have h := o_t b5 h
          rw [b5] at hqc
          have hpass : ∀ z ∈ ([⟨0, 9, 12, 19⟩, ⟨0, 9, 16, 13⟩] : List Jvm.ClassFile.ExceptionTableEntry), covers z 5 = false ∨ (z.catchType ≠ 0 ∧ ∃ nm : String, (Cond.classLink RL z.catchType nm).before args s = true ∧ va_Nc (exN 3) nm s) := by
            intro z hz
            simp only [List.mem_cons, List.not_mem_nil, or_false] at hz
            rcases hz with rfl | rfl
            · exact Or.inr ⟨by decide, exN 1, hts _ clL_1, hE.2.2.2.2.2.2.2.2.2.1 _ (by decide) _ (by decide) (by decide)⟩
            · exact Or.inr ⟨by decide, exN 2, hts _ clL_2, hE.2.2.2.2.2.2.2.2.2.1 _ (by decide) _ (by decide) (by decide)⟩
          refine vx_catch (E := exN 3) (name := exN 3) hown [⟨0, 9, 12, 19⟩, ⟨0, 9, 16, 13⟩] ⟨0, 9, 20, 60⟩ [] (htab.trans rfl) hpass (by decide) (by decide) (hts _ clL_3) (va_Nw.use rfl (hE.2.2.2.2.2.2.2.2.1 _ (by decide))) hq hqv hqc ?_
          refine lv_astore (lv' := [(4, .ref q), (0, .ref (a 0)), (1, .int p1), (2, .int p2), (3, .ref qo)]) hx hb dL_slope_20 hl (by decide) rfl (fun ls hl => ?_)
          refine lv_iconst (v := 3) hx hb dL_slope_22 (by decide) ?_
          cases h
          exact fin _ _ _ _ _ _ (Nat.le_of_ble_eq_true rfl) (Nat.le_of_ble_eq_true rfl) hP hS dL_slope_23
        · have h := o_f b5 h
          cases h
def h_steepest (σ : S6)  (out : Nat → Int64) : Option (Int32 × S6 × (Nat → Int64)) := (s6_steepest σ ).bind fun r => if r.1 = 0 then some (0, r.2.2, vp_updL out (Int32.toNatClampNeg 0) (Int32.toInt64 r.2.1)) else if r.1 = 4 then some (1, r.2.2, out) else none
set_option maxHeartbeats 4000000 in
set_option maxRecDepth 100000 in
theorem H_steepest (D : va_G) (g : Nat → ClassId) (x : Xd) (l : Launch) (hl0 : l.stackTraces = false) (a : Nat → Nat) (e : Nat → Nat → Nat) (qo : Nat) (σ : S6)  (out : Nat → Int64) (R : Int32 × S6 × (Nat → Int64)) (h : h_steepest σ  out = some R) : CnM D g x l yL_steepest cL_steepest 3 [(0, 8, 11, 24)] 7 187 1 [.ref (a 0), .ref qo] (w6 g a e σ ++ [cOut g qo out]) (w6 g a e R.2.1 ++ [cOut g qo R.2.2]) (some (.int R.1)) := by
  refine CnM.mk (by decide +kernel) (Nat.le_of_ble_eq_true rfl) (fun p e9 s m args below meth c A Q ls X htab hD hP hS fin hl => ?_)
  obtain ⟨hx, hb, hml, -, -, hown, hts, hK, hA, hE⟩ := id X
  have hl : lv_has ls 3 [(0, .ref (a 0)), (1, .ref qo)] := hl
  obtain ⟨r, hr, h⟩ := o_b h
  refine lv_aload_n hx hb dL_steepest_0 rfl (lv_at hl 1 rfl) ?_
  refine lv_iconst (v := 0) hx hb dL_steepest_1 (by decide) ?_
  refine lv_aload_n hx hb dL_steepest_2 rfl (lv_at hl 0 rfl) ?_
  have hC := (K6_steepest D g x l hl0 a e σ  r hr).ext _ (mrg_ones _ _ [cOut g qo out] (w6_adr g a e σ r.2.2))
  refine xcallA X (As := []) (rest := [.int 0, .ref qo]) (st1 := [.int r.2.1, .int 0, .ref qo]) hC mw_X6_steepest ml_L_65 ⟨(Nat.le_of_ble_eq_true rfl), (Nat.le_of_ble_eq_true rfl)⟩ hP hD hS rfl 0 rfl rfl rfl hl.1 rfl (Nat.le_of_ble_eq_true rfl) dL_steepest_3 ⟨(Nat.le_of_ble_eq_true rfl), (Nat.le_of_ble_eq_true rfl)⟩ rfl (fun t1 H locs hP hD hS => ?_) (fun t1 H locs q ce hP hD hS hq hqv hqc => ?_)
  · have h := o_t t1 h
    refine lv_i2l (v := Int32.toInt64 r.2.1) hx hb dL_steepest_6 rfl ?_
    refine mlst X (n := 1) (ws1 := w6 g a e r.2.2 ++ [cOut g qo (vp_updL out (Int32.toNatClampNeg 0) (Int32.toInt64 r.2.1))]) hP hD hS 71 rfl (by decide) dL_steepest_7 rfl (fun H locs hP hD hS => ?_)
    refine lv_goto (tgt := 14) hx hb dL_steepest_8 (by decide) ?_
    refine lv_iconst (v := 0) hx hb dL_steepest_14 (by decide) ?_
    cases h
    exact fin _ _ _ _ _ _ (Nat.le_of_ble_eq_true rfl) (Nat.le_of_ble_eq_true rfl) hP hS dL_steepest_15
  · have h := o_f t1 h
    by_cases b3 : r.1 = 4
    · have h := o_t b3 h
      rw [b3] at hqc
      refine vx_catch (E := exN 4) (name := exN 4) hown [] ⟨0, 8, 11, 24⟩ [] (htab.trans rfl) (fun z hz => nomatch hz) (by decide) (by decide) (hts _ clL_4) (va_Nw.use rfl (hE.2.2.2.2.2.2.2.2.1 _ (by decide))) hq hqv hqc ?_
      refine lv_astore_n (lv' := [(2, .ref q), (0, .ref (a 0)), (1, .ref qo)]) hx hb dL_steepest_11 rfl hl (by decide) rfl (fun ls hl => ?_)
      refine lv_iconst (v := 1) hx hb dL_steepest_12 (by decide) ?_
      cases h
      exact fin _ _ _ _ _ _ (Nat.le_of_ble_eq_true rfl) (Nat.le_of_ble_eq_true rfl) hP hS dL_steepest_13
    · have h := o_f b3 h
      cases h
def h_divided (σ : S6) (p1 : Int32) (p2 : Int32) (p3 : Int32) (out : Nat → Int64) : Option (Int32 × S6 × (Nat → Int64)) := (s6_divided σ p1 p2 p3).bind fun r => if r.1 = 0 then some (0, r.2.2, vp_updL out (Int32.toNatClampNeg 0) (r.2.1)) else if r.1 = 1 then some (1, r.2.2, out) else if r.1 = 2 then some (2, r.2.2, out) else none
set_option maxHeartbeats 4000000 in
set_option maxRecDepth 100000 in
theorem H_divided (D : va_G) (g : Nat → ClassId) (x : Xd) (l : Launch) (hl0 : l.stackTraces = false) (a : Nat → Nat) (e : Nat → Nat → Nat) (qo : Nat) (σ : S6) (p1 : Int32) (p2 : Int32) (p3 : Int32) (out : Nat → Int64) (R : Int32 × S6 × (Nat → Int64)) (h : h_divided σ p1 p2 p3 out = some R) : CnM D g x l yL_divided cL_divided 6 [(0, 11, 14, 19), (0, 11, 18, 13)] 9 166 4 [.ref (a 0), .int p1, .int p2, .int p3, .ref qo] (w6 g a e σ ++ [cOut g qo out]) (w6 g a e R.2.1 ++ [cOut g qo R.2.2]) (some (.int R.1)) := by
  refine CnM.mk (by decide +kernel) (Nat.le_of_ble_eq_true rfl) (fun p e9 s m args below meth c A Q ls X htab hD hP hS fin hl => ?_)
  obtain ⟨hx, hb, hml, -, -, hown, hts, hK, hA, hE⟩ := id X
  have hl : lv_has ls 6 [(0, .ref (a 0)), (1, .int p1), (2, .int p2), (3, .int p3), (4, .ref qo)] := hl
  obtain ⟨r, hr, h⟩ := o_b h
  refine lv_aload hx hb dL_divided_0 (lv_at hl 4 rfl) ?_
  refine lv_iconst (v := 0) hx hb dL_divided_2 (by decide) ?_
  refine lv_aload_n hx hb dL_divided_3 rfl (lv_at hl 0 rfl) ?_
  refine lv_iload_n hx hb dL_divided_4 rfl (lv_at hl 1 rfl) ?_
  refine lv_iload_n hx hb dL_divided_5 rfl (lv_at hl 2 rfl) ?_
  refine lv_iload_n hx hb dL_divided_6 rfl (lv_at hl 3 rfl) ?_
  have hC := (K6_divided D g x l hl0 a e σ p1 p2 p3 r hr).ext _ (mrg_ones _ _ [cOut g qo out] (w6_adr g a e σ r.2.2))
  refine xcallA X (As := [.int p1, .int p2, .int p3]) (rest := [.int 0, .ref qo]) (st1 := [.long r.2.1, .int 0, .ref qo]) hC mw_X6_divided ml_L_69 ⟨(Nat.le_of_ble_eq_true rfl), (Nat.le_of_ble_eq_true rfl)⟩ hP hD hS rfl 0 rfl rfl rfl hl.1 rfl (Nat.le_of_ble_eq_true rfl) dL_divided_7 ⟨(Nat.le_of_ble_eq_true rfl), (Nat.le_of_ble_eq_true rfl)⟩ rfl (fun t1 H locs hP hD hS => ?_) (fun t1 H locs q ce hP hD hS hq hqv hqc => ?_)
  · have h := o_t t1 h
    refine mlst X (n := 1) (ws1 := w6 g a e r.2.2 ++ [cOut g qo (vp_updL out (Int32.toNatClampNeg 0) (r.2.1))]) hP hD hS 71 rfl (by decide) dL_divided_10 rfl (fun H locs hP hD hS => ?_)
    refine lv_goto (tgt := 22) hx hb dL_divided_11 (by decide) ?_
    refine lv_iconst (v := 0) hx hb dL_divided_22 (by decide) ?_
    cases h
    exact fin _ _ _ _ _ _ (Nat.le_of_ble_eq_true rfl) (Nat.le_of_ble_eq_true rfl) hP hS dL_divided_23
  · have h := o_f t1 h
    by_cases b3 : r.1 = 1
    · have h := o_t b3 h
      rw [b3] at hqc
      refine vx_catch (E := exN 1) (name := exN 1) hown [] ⟨0, 11, 14, 19⟩ [⟨0, 11, 18, 13⟩] (htab.trans rfl) (fun z hz => nomatch hz) (by decide) (by decide) (hts _ clL_1) (va_Nw.use rfl (hE.2.2.2.2.2.2.2.2.1 _ (by decide))) hq hqv hqc ?_
      refine lv_astore (lv' := [(5, .ref q), (0, .ref (a 0)), (1, .int p1), (2, .int p2), (3, .int p3), (4, .ref qo)]) hx hb dL_divided_14 hl (by decide) rfl (fun ls hl => ?_)
      refine lv_iconst (v := 1) hx hb dL_divided_16 (by decide) ?_
      cases h
      exact fin _ _ _ _ _ _ (Nat.le_of_ble_eq_true rfl) (Nat.le_of_ble_eq_true rfl) hP hS dL_divided_17
    · have h := o_f b3 h
      by_cases b4 : r.1 = 2
      · have h := o_t b4 h
        rw [b4] at hqc
        have hpass : ∀ z ∈ ([⟨0, 11, 14, 19⟩] : List Jvm.ClassFile.ExceptionTableEntry), covers z 7 = false ∨ (z.catchType ≠ 0 ∧ ∃ nm : String, (Cond.classLink RL z.catchType nm).before args s = true ∧ va_Nc (exN 2) nm s) := by
          intro z hz
          simp only [List.mem_cons, List.not_mem_nil, or_false] at hz
          subst hz
          exact Or.inr ⟨by decide, exN 1, hts _ clL_1, hE.2.2.2.2.2.2.2.2.2.1 _ (by decide) _ (by decide) (by decide)⟩
        refine vx_catch (E := exN 2) (name := exN 2) hown [⟨0, 11, 14, 19⟩] ⟨0, 11, 18, 13⟩ [] (htab.trans rfl) hpass (by decide) (by decide) (hts _ clL_2) (va_Nw.use rfl (hE.2.2.2.2.2.2.2.2.1 _ (by decide))) hq hqv hqc ?_
        refine lv_astore (lv' := [(5, .ref q), (0, .ref (a 0)), (1, .int p1), (2, .int p2), (3, .int p3), (4, .ref qo)]) hx hb dL_divided_18 hl (by decide) rfl (fun ls hl => ?_)
        refine lv_iconst (v := 2) hx hb dL_divided_20 (by decide) ?_
        cases h
        exact fin _ _ _ _ _ _ (Nat.le_of_ble_eq_true rfl) (Nat.le_of_ble_eq_true rfl) hP hS dL_divided_21
      · have h := o_f b4 h
        cases h
def h_plainValue (σ : S6) (p1 : Int32) (p2 : Int32) (out : Nat → Int64) : Option (Int32 × S6 × (Nat → Int64)) := (s6_plainValue σ p1 p2).bind fun r => if r.1 = 0 then some (0, r.2.2, vp_updL out (Int32.toNatClampNeg 0) (r.2.1)) else if r.1 = 2 then some (1, r.2.2, out) else if r.1 = 4 then some (2, r.2.2, out) else none
set_option maxHeartbeats 4000000 in
set_option maxRecDepth 100000 in
theorem H_plainValue (D : va_G) (g : Nat → ClassId) (x : Xd) (l : Launch) (hl0 : l.stackTraces = false) (a : Nat → Nat) (e : Nat → Nat → Nat) (qo : Nat) (σ : S6) (p1 : Int32) (p2 : Int32) (out : Nat → Int64) (R : Int32 × S6 × (Nat → Int64)) (h : h_plainValue σ p1 p2 out = some R) : CnM D g x l yL_plainValue cL_plainValue 5 [(0, 9, 12, 13), (0, 9, 16, 24)] 9 155 3 [.ref (a 0), .int p1, .int p2, .ref qo] (w6 g a e σ ++ [cOut g qo out]) (w6 g a e R.2.1 ++ [cOut g qo R.2.2]) (some (.int R.1)) := by
  refine CnM.mk (by decide +kernel) (Nat.le_of_ble_eq_true rfl) (fun p e9 s m args below meth c A Q ls X htab hD hP hS fin hl => ?_)
  obtain ⟨hx, hb, hml, -, -, hown, hts, hK, hA, hE⟩ := id X
  have hl : lv_has ls 5 [(0, .ref (a 0)), (1, .int p1), (2, .int p2), (3, .ref qo)] := hl
  obtain ⟨r, hr, h⟩ := o_b h
  refine lv_aload_n hx hb dL_plainValue_0 rfl (lv_at hl 3 rfl) ?_
  refine lv_iconst (v := 0) hx hb dL_plainValue_1 (by decide) ?_
  refine lv_aload_n hx hb dL_plainValue_2 rfl (lv_at hl 0 rfl) ?_
  refine lv_iload_n hx hb dL_plainValue_3 rfl (lv_at hl 1 rfl) ?_
  refine lv_iload_n hx hb dL_plainValue_4 rfl (lv_at hl 2 rfl) ?_
  have hC := (K6_plainValue D g x l hl0 a e σ p1 p2 r hr).ext _ (mrg_ones _ _ [cOut g qo out] (w6_adr g a e σ r.2.2))
  refine xcallA X (As := [.int p1, .int p2]) (rest := [.int 0, .ref qo]) (st1 := [.long r.2.1, .int 0, .ref qo]) hC mw_X6_plainValue ml_L_72 ⟨(Nat.le_of_ble_eq_true rfl), (Nat.le_of_ble_eq_true rfl)⟩ hP hD hS rfl 0 rfl rfl rfl hl.1 rfl (Nat.le_of_ble_eq_true rfl) dL_plainValue_5 ⟨(Nat.le_of_ble_eq_true rfl), (Nat.le_of_ble_eq_true rfl)⟩ rfl (fun t1 H locs hP hD hS => ?_) (fun t1 H locs q ce hP hD hS hq hqv hqc => ?_)
  · have h := o_t t1 h
    refine mlst X (n := 1) (ws1 := w6 g a e r.2.2 ++ [cOut g qo (vp_updL out (Int32.toNatClampNeg 0) (r.2.1))]) hP hD hS 71 rfl (by decide) dL_plainValue_8 rfl (fun H locs hP hD hS => ?_)
    refine lv_goto (tgt := 20) hx hb dL_plainValue_9 (by decide) ?_
    refine lv_iconst (v := 0) hx hb dL_plainValue_20 (by decide) ?_
    cases h
    exact fin _ _ _ _ _ _ (Nat.le_of_ble_eq_true rfl) (Nat.le_of_ble_eq_true rfl) hP hS dL_plainValue_21
  · have h := o_f t1 h
    by_cases b3 : r.1 = 2
    · have h := o_t b3 h
      rw [b3] at hqc
      refine vx_catch (E := exN 2) (name := exN 2) hown [] ⟨0, 9, 12, 13⟩ [⟨0, 9, 16, 24⟩] (htab.trans rfl) (fun z hz => nomatch hz) (by decide) (by decide) (hts _ clL_2) (va_Nw.use rfl (hE.2.2.2.2.2.2.2.2.1 _ (by decide))) hq hqv hqc ?_
      refine lv_astore (lv' := [(4, .ref q), (0, .ref (a 0)), (1, .int p1), (2, .int p2), (3, .ref qo)]) hx hb dL_plainValue_12 hl (by decide) rfl (fun ls hl => ?_)
      refine lv_iconst (v := 1) hx hb dL_plainValue_14 (by decide) ?_
      cases h
      exact fin _ _ _ _ _ _ (Nat.le_of_ble_eq_true rfl) (Nat.le_of_ble_eq_true rfl) hP hS dL_plainValue_15
    · have h := o_f b3 h
      by_cases b4 : r.1 = 4
      · have h := o_t b4 h
        rw [b4] at hqc
        have hpass : ∀ z ∈ ([⟨0, 9, 12, 13⟩] : List Jvm.ClassFile.ExceptionTableEntry), covers z 5 = false ∨ (z.catchType ≠ 0 ∧ ∃ nm : String, (Cond.classLink RL z.catchType nm).before args s = true ∧ va_Nc (exN 4) nm s) := by
          intro z hz
          simp only [List.mem_cons, List.not_mem_nil, or_false] at hz
          subst hz
          exact Or.inr ⟨by decide, exN 2, hts _ clL_2, hE.2.2.2.2.2.2.2.2.2.1 _ (by decide) _ (by decide) (by decide)⟩
        refine vx_catch (E := exN 4) (name := exN 4) hown [⟨0, 9, 12, 13⟩] ⟨0, 9, 16, 24⟩ [] (htab.trans rfl) hpass (by decide) (by decide) (hts _ clL_4) (va_Nw.use rfl (hE.2.2.2.2.2.2.2.2.1 _ (by decide))) hq hqv hqc ?_
        refine lv_astore (lv' := [(4, .ref q), (0, .ref (a 0)), (1, .int p1), (2, .int p2), (3, .ref qo)]) hx hb dL_plainValue_16 hl (by decide) rfl (fun ls hl => ?_)
        refine lv_iconst (v := 2) hx hb dL_plainValue_18 (by decide) ?_
        cases h
        exact fin _ _ _ _ _ _ (Nat.le_of_ble_eq_true rfl) (Nat.le_of_ble_eq_true rfl) hP hS dL_plainValue_19
      · have h := o_f b4 h
        cases h
def h_valueIf (σ : S6) (p1 : Int32) (p2 : Int32) (p3 : Int32) (p4 : Int32) (out : Nat → Int64) : Option (Int32 × S6 × (Nat → Int64)) := (s6_valueIf σ p1 p2 p3 p4).bind fun r => if r.1 = 0 then some (0, r.2.2, vp_updL out (Int32.toNatClampNeg 0) (r.2.1)) else if r.1 = 1 then some (1, r.2.2, out) else if r.1 = 2 then some (2, r.2.2, out) else if r.1 = 3 then some (3, r.2.2, out) else if r.1 = 4 then some (4, r.2.2, out) else none
set_option maxHeartbeats 4000000 in
set_option maxRecDepth 100000 in
theorem H_valueIf (D : va_G) (g : Nat → ClassId) (x : Xd) (l : Launch) (hl0 : l.stackTraces = false) (a : Nat → Nat) (e : Nat → Nat → Nat) (qo : Nat) (σ : S6) (p1 : Int32) (p2 : Int32) (p3 : Int32) (p4 : Int32) (out : Nat → Int64) (R : Int32 × S6 × (Nat → Int64)) (h : h_valueIf σ p1 p2 p3 p4 out = some R) : CnM D g x l yL_valueIf cL_valueIf 7 [(0, 13, 16, 19), (0, 13, 20, 13), (0, 13, 24, 60), (0, 13, 28, 24)] 9 168 6 [.ref (a 0), .int p1, .int p2, .int p3, .int p4, .ref qo] (w6 g a e σ ++ [cOut g qo out]) (w6 g a e R.2.1 ++ [cOut g qo R.2.2]) (some (.int R.1)) := by
  refine CnM.mk (by decide +kernel) (Nat.le_of_ble_eq_true rfl) (fun p e9 s m args below meth c A Q ls X htab hD hP hS fin hl => ?_)
  obtain ⟨hx, hb, hml, -, -, hown, hts, hK, hA, hE⟩ := id X
  have hl : lv_has ls 7 [(0, .ref (a 0)), (1, .int p1), (2, .int p2), (3, .int p3), (4, .int p4), (5, .ref qo)] := hl
  obtain ⟨r, hr, h⟩ := o_b h
  refine lv_aload hx hb dL_valueIf_0 (lv_at hl 5 rfl) ?_
  refine lv_iconst (v := 0) hx hb dL_valueIf_2 (by decide) ?_
  refine lv_aload_n hx hb dL_valueIf_3 rfl (lv_at hl 0 rfl) ?_
  refine lv_iload_n hx hb dL_valueIf_4 rfl (lv_at hl 1 rfl) ?_
  refine lv_iload_n hx hb dL_valueIf_5 rfl (lv_at hl 2 rfl) ?_
  refine lv_iload_n hx hb dL_valueIf_6 rfl (lv_at hl 3 rfl) ?_
  refine lv_iload hx hb dL_valueIf_7 (lv_at hl 4 rfl) ?_
  have hC := (K6_valueIf D g x l hl0 a e σ p1 p2 p3 p4 r hr).ext _ (mrg_ones _ _ [cOut g qo out] (w6_adr g a e σ r.2.2))
  refine xcallA X (As := [.int p1, .int p2, .int p3, .int p4]) (rest := [.int 0, .ref qo]) (st1 := [.long r.2.1, .int 0, .ref qo]) hC mw_X6_valueIf ml_L_75 ⟨(Nat.le_of_ble_eq_true rfl), (Nat.le_of_ble_eq_true rfl)⟩ hP hD hS rfl 0 rfl rfl rfl hl.1 rfl (Nat.le_of_ble_eq_true rfl) dL_valueIf_9 ⟨(Nat.le_of_ble_eq_true rfl), (Nat.le_of_ble_eq_true rfl)⟩ rfl (fun t1 H locs hP hD hS => ?_) (fun t1 H locs q ce hP hD hS hq hqv hqc => ?_)
  · have h := o_t t1 h
    refine mlst X (n := 1) (ws1 := w6 g a e r.2.2 ++ [cOut g qo (vp_updL out (Int32.toNatClampNeg 0) (r.2.1))]) hP hD hS 71 rfl (by decide) dL_valueIf_12 rfl (fun H locs hP hD hS => ?_)
    refine lv_goto (tgt := 32) hx hb dL_valueIf_13 (by decide) ?_
    refine lv_iconst (v := 0) hx hb dL_valueIf_32 (by decide) ?_
    cases h
    exact fin _ _ _ _ _ _ (Nat.le_of_ble_eq_true rfl) (Nat.le_of_ble_eq_true rfl) hP hS dL_valueIf_33
  · have h := o_f t1 h
    by_cases b3 : r.1 = 1
    · have h := o_t b3 h
      rw [b3] at hqc
      refine vx_catch (E := exN 1) (name := exN 1) hown [] ⟨0, 13, 16, 19⟩ [⟨0, 13, 20, 13⟩, ⟨0, 13, 24, 60⟩, ⟨0, 13, 28, 24⟩] (htab.trans rfl) (fun z hz => nomatch hz) (by decide) (by decide) (hts _ clL_1) (va_Nw.use rfl (hE.2.2.2.2.2.2.2.2.1 _ (by decide))) hq hqv hqc ?_
      refine lv_astore (lv' := [(6, .ref q), (0, .ref (a 0)), (1, .int p1), (2, .int p2), (3, .int p3), (4, .int p4), (5, .ref qo)]) hx hb dL_valueIf_16 hl (by decide) rfl (fun ls hl => ?_)
      refine lv_iconst (v := 1) hx hb dL_valueIf_18 (by decide) ?_
      cases h
      exact fin _ _ _ _ _ _ (Nat.le_of_ble_eq_true rfl) (Nat.le_of_ble_eq_true rfl) hP hS dL_valueIf_19
    · have h := o_f b3 h
      by_cases b4 : r.1 = 2
      · have h := o_t b4 h
        rw [b4] at hqc
        have hpass : ∀ z ∈ ([⟨0, 13, 16, 19⟩] : List Jvm.ClassFile.ExceptionTableEntry), covers z 9 = false ∨ (z.catchType ≠ 0 ∧ ∃ nm : String, (Cond.classLink RL z.catchType nm).before args s = true ∧ va_Nc (exN 2) nm s) := by
          intro z hz
          simp only [List.mem_cons, List.not_mem_nil, or_false] at hz
          subst hz
          exact Or.inr ⟨by decide, exN 1, hts _ clL_1, hE.2.2.2.2.2.2.2.2.2.1 _ (by decide) _ (by decide) (by decide)⟩
        refine vx_catch (E := exN 2) (name := exN 2) hown [⟨0, 13, 16, 19⟩] ⟨0, 13, 20, 13⟩ [⟨0, 13, 24, 60⟩, ⟨0, 13, 28, 24⟩] (htab.trans rfl) hpass (by decide) (by decide) (hts _ clL_2) (va_Nw.use rfl (hE.2.2.2.2.2.2.2.2.1 _ (by decide))) hq hqv hqc ?_
        refine lv_astore (lv' := [(6, .ref q), (0, .ref (a 0)), (1, .int p1), (2, .int p2), (3, .int p3), (4, .int p4), (5, .ref qo)]) hx hb dL_valueIf_20 hl (by decide) rfl (fun ls hl => ?_)
        refine lv_iconst (v := 2) hx hb dL_valueIf_22 (by decide) ?_
        cases h
        exact fin _ _ _ _ _ _ (Nat.le_of_ble_eq_true rfl) (Nat.le_of_ble_eq_true rfl) hP hS dL_valueIf_23
      · have h := o_f b4 h
        by_cases b5 : r.1 = 3
        · have h := o_t b5 h
          rw [b5] at hqc
          have hpass : ∀ z ∈ ([⟨0, 13, 16, 19⟩, ⟨0, 13, 20, 13⟩] : List Jvm.ClassFile.ExceptionTableEntry), covers z 9 = false ∨ (z.catchType ≠ 0 ∧ ∃ nm : String, (Cond.classLink RL z.catchType nm).before args s = true ∧ va_Nc (exN 3) nm s) := by
            intro z hz
            simp only [List.mem_cons, List.not_mem_nil, or_false] at hz
            rcases hz with rfl | rfl
            · exact Or.inr ⟨by decide, exN 1, hts _ clL_1, hE.2.2.2.2.2.2.2.2.2.1 _ (by decide) _ (by decide) (by decide)⟩
            · exact Or.inr ⟨by decide, exN 2, hts _ clL_2, hE.2.2.2.2.2.2.2.2.2.1 _ (by decide) _ (by decide) (by decide)⟩
          refine vx_catch (E := exN 3) (name := exN 3) hown [⟨0, 13, 16, 19⟩, ⟨0, 13, 20, 13⟩] ⟨0, 13, 24, 60⟩ [⟨0, 13, 28, 24⟩] (htab.trans rfl) hpass (by decide) (by decide) (hts _ clL_3) (va_Nw.use rfl (hE.2.2.2.2.2.2.2.2.1 _ (by decide))) hq hqv hqc ?_
          refine lv_astore (lv' := [(6, .ref q), (0, .ref (a 0)), (1, .int p1), (2, .int p2), (3, .int p3), (4, .int p4), (5, .ref qo)]) hx hb dL_valueIf_24 hl (by decide) rfl (fun ls hl => ?_)
          refine lv_iconst (v := 3) hx hb dL_valueIf_26 (by decide) ?_
          cases h
          exact fin _ _ _ _ _ _ (Nat.le_of_ble_eq_true rfl) (Nat.le_of_ble_eq_true rfl) hP hS dL_valueIf_27
        · have h := o_f b5 h
          by_cases b6 : r.1 = 4
          · have h := o_t b6 h
            rw [b6] at hqc
            have hpass : ∀ z ∈ ([⟨0, 13, 16, 19⟩, ⟨0, 13, 20, 13⟩, ⟨0, 13, 24, 60⟩] : List Jvm.ClassFile.ExceptionTableEntry), covers z 9 = false ∨ (z.catchType ≠ 0 ∧ ∃ nm : String, (Cond.classLink RL z.catchType nm).before args s = true ∧ va_Nc (exN 4) nm s) := by
              intro z hz
              simp only [List.mem_cons, List.not_mem_nil, or_false] at hz
              rcases hz with rfl | rfl | rfl
              · exact Or.inr ⟨by decide, exN 1, hts _ clL_1, hE.2.2.2.2.2.2.2.2.2.1 _ (by decide) _ (by decide) (by decide)⟩
              · exact Or.inr ⟨by decide, exN 2, hts _ clL_2, hE.2.2.2.2.2.2.2.2.2.1 _ (by decide) _ (by decide) (by decide)⟩
              · exact Or.inr ⟨by decide, exN 3, hts _ clL_3, hE.2.2.2.2.2.2.2.2.2.1 _ (by decide) _ (by decide) (by decide)⟩
            refine vx_catch (E := exN 4) (name := exN 4) hown [⟨0, 13, 16, 19⟩, ⟨0, 13, 20, 13⟩, ⟨0, 13, 24, 60⟩] ⟨0, 13, 28, 24⟩ [] (htab.trans rfl) hpass (by decide) (by decide) (hts _ clL_4) (va_Nw.use rfl (hE.2.2.2.2.2.2.2.2.1 _ (by decide))) hq hqv hqc ?_
            refine lv_astore (lv' := [(6, .ref q), (0, .ref (a 0)), (1, .int p1), (2, .int p2), (3, .int p3), (4, .int p4), (5, .ref qo)]) hx hb dL_valueIf_28 hl (by decide) rfl (fun ls hl => ?_)
            refine lv_iconst (v := 4) hx hb dL_valueIf_30 (by decide) ?_
            cases h
            exact fin _ _ _ _ _ _ (Nat.le_of_ble_eq_true rfl) (Nat.le_of_ble_eq_true rfl) hP hS dL_valueIf_31
          · have h := o_f b6 h
            cases h
def h_valueWithout (σ : S6) (p1 : Int32) (p2 : Int32) (p3 : Int32) (out : Nat → Int64) : Option (Int32 × S6 × (Nat → Int64)) := (s6_valueWithout σ p1 p2 p3).bind fun r => if r.1 = 0 then some (0, r.2.2, vp_updL out (Int32.toNatClampNeg 0) (r.2.1)) else if r.1 = 1 then some (1, r.2.2, out) else if r.1 = 2 then some (2, r.2.2, out) else if r.1 = 4 then some (3, r.2.2, out) else none
set_option maxHeartbeats 4000000 in
set_option maxRecDepth 100000 in
theorem H_valueWithout (D : va_G) (g : Nat → ClassId) (x : Xd) (l : Launch) (hl0 : l.stackTraces = false) (a : Nat → Nat) (e : Nat → Nat → Nat) (qo : Nat) (σ : S6) (p1 : Int32) (p2 : Int32) (p3 : Int32) (out : Nat → Int64) (R : Int32 × S6 × (Nat → Int64)) (h : h_valueWithout σ p1 p2 p3 out = some R) : CnM D g x l yL_valueWithout cL_valueWithout 6 [(0, 11, 14, 19), (0, 11, 18, 13), (0, 11, 22, 24)] 9 156 4 [.ref (a 0), .int p1, .int p2, .int p3, .ref qo] (w6 g a e σ ++ [cOut g qo out]) (w6 g a e R.2.1 ++ [cOut g qo R.2.2]) (some (.int R.1)) := by
  refine CnM.mk (by decide +kernel) (Nat.le_of_ble_eq_true rfl) (fun p e9 s m args below meth c A Q ls X htab hD hP hS fin hl => ?_)
  obtain ⟨hx, hb, hml, -, -, hown, hts, hK, hA, hE⟩ := id X
  have hl : lv_has ls 6 [(0, .ref (a 0)), (1, .int p1), (2, .int p2), (3, .int p3), (4, .ref qo)] := hl
  obtain ⟨r, hr, h⟩ := o_b h
  refine lv_aload hx hb dL_valueWithout_0 (lv_at hl 4 rfl) ?_
  refine lv_iconst (v := 0) hx hb dL_valueWithout_2 (by decide) ?_
  refine lv_aload_n hx hb dL_valueWithout_3 rfl (lv_at hl 0 rfl) ?_
  refine lv_iload_n hx hb dL_valueWithout_4 rfl (lv_at hl 1 rfl) ?_
  refine lv_iload_n hx hb dL_valueWithout_5 rfl (lv_at hl 2 rfl) ?_
  refine lv_iload_n hx hb dL_valueWithout_6 rfl (lv_at hl 3 rfl) ?_
  have hC := (K6_valueWithout D g x l hl0 a e σ p1 p2 p3 r hr).ext _ (mrg_ones _ _ [cOut g qo out] (w6_adr g a e σ r.2.2))
  refine xcallA X (As := [.int p1, .int p2, .int p3]) (rest := [.int 0, .ref qo]) (st1 := [.long r.2.1, .int 0, .ref qo]) hC mw_X6_valueWithout ml_L_79 ⟨(Nat.le_of_ble_eq_true rfl), (Nat.le_of_ble_eq_true rfl)⟩ hP hD hS rfl 0 rfl rfl rfl hl.1 rfl (Nat.le_of_ble_eq_true rfl) dL_valueWithout_7 ⟨(Nat.le_of_ble_eq_true rfl), (Nat.le_of_ble_eq_true rfl)⟩ rfl (fun t1 H locs hP hD hS => ?_) (fun t1 H locs q ce hP hD hS hq hqv hqc => ?_)
  · have h := o_t t1 h
    refine mlst X (n := 1) (ws1 := w6 g a e r.2.2 ++ [cOut g qo (vp_updL out (Int32.toNatClampNeg 0) (r.2.1))]) hP hD hS 71 rfl (by decide) dL_valueWithout_10 rfl (fun H locs hP hD hS => ?_)
    refine lv_goto (tgt := 26) hx hb dL_valueWithout_11 (by decide) ?_
    refine lv_iconst (v := 0) hx hb dL_valueWithout_26 (by decide) ?_
    cases h
    exact fin _ _ _ _ _ _ (Nat.le_of_ble_eq_true rfl) (Nat.le_of_ble_eq_true rfl) hP hS dL_valueWithout_27
  · have h := o_f t1 h
    by_cases b3 : r.1 = 1
    · have h := o_t b3 h
      rw [b3] at hqc
      refine vx_catch (E := exN 1) (name := exN 1) hown [] ⟨0, 11, 14, 19⟩ [⟨0, 11, 18, 13⟩, ⟨0, 11, 22, 24⟩] (htab.trans rfl) (fun z hz => nomatch hz) (by decide) (by decide) (hts _ clL_1) (va_Nw.use rfl (hE.2.2.2.2.2.2.2.2.1 _ (by decide))) hq hqv hqc ?_
      refine lv_astore (lv' := [(5, .ref q), (0, .ref (a 0)), (1, .int p1), (2, .int p2), (3, .int p3), (4, .ref qo)]) hx hb dL_valueWithout_14 hl (by decide) rfl (fun ls hl => ?_)
      refine lv_iconst (v := 1) hx hb dL_valueWithout_16 (by decide) ?_
      cases h
      exact fin _ _ _ _ _ _ (Nat.le_of_ble_eq_true rfl) (Nat.le_of_ble_eq_true rfl) hP hS dL_valueWithout_17
    · have h := o_f b3 h
      by_cases b4 : r.1 = 2
      · have h := o_t b4 h
        rw [b4] at hqc
        have hpass : ∀ z ∈ ([⟨0, 11, 14, 19⟩] : List Jvm.ClassFile.ExceptionTableEntry), covers z 7 = false ∨ (z.catchType ≠ 0 ∧ ∃ nm : String, (Cond.classLink RL z.catchType nm).before args s = true ∧ va_Nc (exN 2) nm s) := by
          intro z hz
          simp only [List.mem_cons, List.not_mem_nil, or_false] at hz
          subst hz
          exact Or.inr ⟨by decide, exN 1, hts _ clL_1, hE.2.2.2.2.2.2.2.2.2.1 _ (by decide) _ (by decide) (by decide)⟩
        refine vx_catch (E := exN 2) (name := exN 2) hown [⟨0, 11, 14, 19⟩] ⟨0, 11, 18, 13⟩ [⟨0, 11, 22, 24⟩] (htab.trans rfl) hpass (by decide) (by decide) (hts _ clL_2) (va_Nw.use rfl (hE.2.2.2.2.2.2.2.2.1 _ (by decide))) hq hqv hqc ?_
        refine lv_astore (lv' := [(5, .ref q), (0, .ref (a 0)), (1, .int p1), (2, .int p2), (3, .int p3), (4, .ref qo)]) hx hb dL_valueWithout_18 hl (by decide) rfl (fun ls hl => ?_)
        refine lv_iconst (v := 2) hx hb dL_valueWithout_20 (by decide) ?_
        cases h
        exact fin _ _ _ _ _ _ (Nat.le_of_ble_eq_true rfl) (Nat.le_of_ble_eq_true rfl) hP hS dL_valueWithout_21
      · have h := o_f b4 h
        by_cases b5 : r.1 = 4
        · have h := o_t b5 h
          rw [b5] at hqc
          have hpass : ∀ z ∈ ([⟨0, 11, 14, 19⟩, ⟨0, 11, 18, 13⟩] : List Jvm.ClassFile.ExceptionTableEntry), covers z 7 = false ∨ (z.catchType ≠ 0 ∧ ∃ nm : String, (Cond.classLink RL z.catchType nm).before args s = true ∧ va_Nc (exN 4) nm s) := by
            intro z hz
            simp only [List.mem_cons, List.not_mem_nil, or_false] at hz
            rcases hz with rfl | rfl
            · exact Or.inr ⟨by decide, exN 1, hts _ clL_1, hE.2.2.2.2.2.2.2.2.2.1 _ (by decide) _ (by decide) (by decide)⟩
            · exact Or.inr ⟨by decide, exN 2, hts _ clL_2, hE.2.2.2.2.2.2.2.2.2.1 _ (by decide) _ (by decide) (by decide)⟩
          refine vx_catch (E := exN 4) (name := exN 4) hown [⟨0, 11, 14, 19⟩, ⟨0, 11, 18, 13⟩] ⟨0, 11, 22, 24⟩ [] (htab.trans rfl) hpass (by decide) (by decide) (hts _ clL_4) (va_Nw.use rfl (hE.2.2.2.2.2.2.2.2.1 _ (by decide))) hq hqv hqc ?_
          refine lv_astore (lv' := [(5, .ref q), (0, .ref (a 0)), (1, .int p1), (2, .int p2), (3, .int p3), (4, .ref qo)]) hx hb dL_valueWithout_22 hl (by decide) rfl (fun ls hl => ?_)
          refine lv_iconst (v := 3) hx hb dL_valueWithout_24 (by decide) ?_
          cases h
          exact fin _ _ _ _ _ _ (Nat.le_of_ble_eq_true rfl) (Nat.le_of_ble_eq_true rfl) hP hS dL_valueWithout_25
        · have h := o_f b5 h
          cases h
def h_bestPlace (σ : S6) (p1 : Int32) (p2 : Int32) (out : Nat → Int64) : Option (Int32 × S6 × (Nat → Int64)) := (s6_bestPlace σ p1 p2).bind fun r => if r.1 = 0 then some (0, r.2.2, vp_updL out (Int32.toNatClampNeg 0) (Int32.toInt64 r.2.1)) else if r.1 = 1 then some (1, r.2.2, out) else if r.1 = 2 then some (2, r.2.2, out) else if r.1 = 4 then some (3, r.2.2, out) else none
set_option maxHeartbeats 4000000 in
set_option maxRecDepth 100000 in
theorem H_bestPlace (D : va_G) (g : Nat → ClassId) (x : Xd) (l : Launch) (hl0 : l.stackTraces = false) (a : Nat → Nat) (e : Nat → Nat → Nat) (qo : Nat) (σ : S6) (p1 : Int32) (p2 : Int32) (out : Nat → Int64) (R : Int32 × S6 × (Nat → Int64)) (h : h_bestPlace σ p1 p2 out = some R) : CnM D g x l yL_bestPlace cL_bestPlace 5 [(0, 10, 13, 19), (0, 10, 17, 13), (0, 10, 21, 24)] 9 169 3 [.ref (a 0), .int p1, .int p2, .ref qo] (w6 g a e σ ++ [cOut g qo out]) (w6 g a e R.2.1 ++ [cOut g qo R.2.2]) (some (.int R.1)) := by
  refine CnM.mk (by decide +kernel) (Nat.le_of_ble_eq_true rfl) (fun p e9 s m args below meth c A Q ls X htab hD hP hS fin hl => ?_)
  obtain ⟨hx, hb, hml, -, -, hown, hts, hK, hA, hE⟩ := id X
  have hl : lv_has ls 5 [(0, .ref (a 0)), (1, .int p1), (2, .int p2), (3, .ref qo)] := hl
  obtain ⟨r, hr, h⟩ := o_b h
  refine lv_aload_n hx hb dL_bestPlace_0 rfl (lv_at hl 3 rfl) ?_
  refine lv_iconst (v := 0) hx hb dL_bestPlace_1 (by decide) ?_
  refine lv_aload_n hx hb dL_bestPlace_2 rfl (lv_at hl 0 rfl) ?_
  refine lv_iload_n hx hb dL_bestPlace_3 rfl (lv_at hl 1 rfl) ?_
  refine lv_iload_n hx hb dL_bestPlace_4 rfl (lv_at hl 2 rfl) ?_
  have hC := (K6_bestPlace D g x l hl0 a e σ p1 p2 r hr).ext _ (mrg_ones _ _ [cOut g qo out] (w6_adr g a e σ r.2.2))
  refine xcallA X (As := [.int p1, .int p2]) (rest := [.int 0, .ref qo]) (st1 := [.int r.2.1, .int 0, .ref qo]) hC mw_X6_bestPlace ml_L_82 ⟨(Nat.le_of_ble_eq_true rfl), (Nat.le_of_ble_eq_true rfl)⟩ hP hD hS rfl 0 rfl rfl rfl hl.1 rfl (Nat.le_of_ble_eq_true rfl) dL_bestPlace_5 ⟨(Nat.le_of_ble_eq_true rfl), (Nat.le_of_ble_eq_true rfl)⟩ rfl (fun t1 H locs hP hD hS => ?_) (fun t1 H locs q ce hP hD hS hq hqv hqc => ?_)
  · have h := o_t t1 h
    refine lv_i2l (v := Int32.toInt64 r.2.1) hx hb dL_bestPlace_8 rfl ?_
    refine mlst X (n := 1) (ws1 := w6 g a e r.2.2 ++ [cOut g qo (vp_updL out (Int32.toNatClampNeg 0) (Int32.toInt64 r.2.1))]) hP hD hS 71 rfl (by decide) dL_bestPlace_9 rfl (fun H locs hP hD hS => ?_)
    refine lv_goto (tgt := 25) hx hb dL_bestPlace_10 (by decide) ?_
    refine lv_iconst (v := 0) hx hb dL_bestPlace_25 (by decide) ?_
    cases h
    exact fin _ _ _ _ _ _ (Nat.le_of_ble_eq_true rfl) (Nat.le_of_ble_eq_true rfl) hP hS dL_bestPlace_26
  · have h := o_f t1 h
    by_cases b3 : r.1 = 1
    · have h := o_t b3 h
      rw [b3] at hqc
      refine vx_catch (E := exN 1) (name := exN 1) hown [] ⟨0, 10, 13, 19⟩ [⟨0, 10, 17, 13⟩, ⟨0, 10, 21, 24⟩] (htab.trans rfl) (fun z hz => nomatch hz) (by decide) (by decide) (hts _ clL_1) (va_Nw.use rfl (hE.2.2.2.2.2.2.2.2.1 _ (by decide))) hq hqv hqc ?_
      refine lv_astore (lv' := [(4, .ref q), (0, .ref (a 0)), (1, .int p1), (2, .int p2), (3, .ref qo)]) hx hb dL_bestPlace_13 hl (by decide) rfl (fun ls hl => ?_)
      refine lv_iconst (v := 1) hx hb dL_bestPlace_15 (by decide) ?_
      cases h
      exact fin _ _ _ _ _ _ (Nat.le_of_ble_eq_true rfl) (Nat.le_of_ble_eq_true rfl) hP hS dL_bestPlace_16
    · have h := o_f b3 h
      by_cases b4 : r.1 = 2
      · have h := o_t b4 h
        rw [b4] at hqc
        have hpass : ∀ z ∈ ([⟨0, 10, 13, 19⟩] : List Jvm.ClassFile.ExceptionTableEntry), covers z 5 = false ∨ (z.catchType ≠ 0 ∧ ∃ nm : String, (Cond.classLink RL z.catchType nm).before args s = true ∧ va_Nc (exN 2) nm s) := by
          intro z hz
          simp only [List.mem_cons, List.not_mem_nil, or_false] at hz
          subst hz
          exact Or.inr ⟨by decide, exN 1, hts _ clL_1, hE.2.2.2.2.2.2.2.2.2.1 _ (by decide) _ (by decide) (by decide)⟩
        refine vx_catch (E := exN 2) (name := exN 2) hown [⟨0, 10, 13, 19⟩] ⟨0, 10, 17, 13⟩ [⟨0, 10, 21, 24⟩] (htab.trans rfl) hpass (by decide) (by decide) (hts _ clL_2) (va_Nw.use rfl (hE.2.2.2.2.2.2.2.2.1 _ (by decide))) hq hqv hqc ?_
        refine lv_astore (lv' := [(4, .ref q), (0, .ref (a 0)), (1, .int p1), (2, .int p2), (3, .ref qo)]) hx hb dL_bestPlace_17 hl (by decide) rfl (fun ls hl => ?_)
        refine lv_iconst (v := 2) hx hb dL_bestPlace_19 (by decide) ?_
        cases h
        exact fin _ _ _ _ _ _ (Nat.le_of_ble_eq_true rfl) (Nat.le_of_ble_eq_true rfl) hP hS dL_bestPlace_20
      · have h := o_f b4 h
        by_cases b5 : r.1 = 4
        · have h := o_t b5 h
          rw [b5] at hqc
          have hpass : ∀ z ∈ ([⟨0, 10, 13, 19⟩, ⟨0, 10, 17, 13⟩] : List Jvm.ClassFile.ExceptionTableEntry), covers z 5 = false ∨ (z.catchType ≠ 0 ∧ ∃ nm : String, (Cond.classLink RL z.catchType nm).before args s = true ∧ va_Nc (exN 4) nm s) := by
            intro z hz
            simp only [List.mem_cons, List.not_mem_nil, or_false] at hz
            rcases hz with rfl | rfl
            · exact Or.inr ⟨by decide, exN 1, hts _ clL_1, hE.2.2.2.2.2.2.2.2.2.1 _ (by decide) _ (by decide) (by decide)⟩
            · exact Or.inr ⟨by decide, exN 2, hts _ clL_2, hE.2.2.2.2.2.2.2.2.2.1 _ (by decide) _ (by decide) (by decide)⟩
          refine vx_catch (E := exN 4) (name := exN 4) hown [⟨0, 10, 13, 19⟩, ⟨0, 10, 17, 13⟩] ⟨0, 10, 21, 24⟩ [] (htab.trans rfl) hpass (by decide) (by decide) (hts _ clL_4) (va_Nw.use rfl (hE.2.2.2.2.2.2.2.2.1 _ (by decide))) hq hqv hqc ?_
          refine lv_astore (lv' := [(4, .ref q), (0, .ref (a 0)), (1, .int p1), (2, .int p2), (3, .ref qo)]) hx hb dL_bestPlace_21 hl (by decide) rfl (fun ls hl => ?_)
          refine lv_iconst (v := 3) hx hb dL_bestPlace_23 (by decide) ?_
          cases h
          exact fin _ _ _ _ _ _ (Nat.le_of_ble_eq_true rfl) (Nat.le_of_ble_eq_true rfl) hP hS dL_bestPlace_24
        · have h := o_f b5 h
          cases h
def h_move (σ : S6) (p1 : Int32) (p2 : Int32) (out : Nat → Int64) : Option (Int32 × S6 × (Nat → Int64)) := (s6_move σ p1 p2).bind fun r => if r.1 = 0 then some (0, r.2.2, vp_updL out (Int32.toNatClampNeg 0) (Int32.toInt64 r.2.1)) else if r.1 = 1 then some (1, r.2.2, out) else if r.1 = 2 then some (2, r.2.2, out) else if r.1 = 3 then some (3, r.2.2, out) else none
set_option maxHeartbeats 4000000 in
set_option maxRecDepth 100000 in
theorem H_move (D : va_G) (g : Nat → ClassId) (x : Xd) (l : Launch) (hl0 : l.stackTraces = false) (a : Nat → Nat) (e : Nat → Nat → Nat) (qo : Nat) (σ : S6) (p1 : Int32) (p2 : Int32) (out : Nat → Int64) (R : Int32 × S6 × (Nat → Int64)) (h : h_move σ p1 p2 out = some R) : CnM D g x l yL_move cL_move 5 [(0, 10, 13, 19), (0, 10, 17, 13), (0, 10, 21, 60)] 9 156 3 [.ref (a 0), .int p1, .int p2, .ref qo] (w6 g a e σ ++ [cOut g qo out]) (w6 g a e R.2.1 ++ [cOut g qo R.2.2]) (some (.int R.1)) := by
  refine CnM.mk (by decide +kernel) (Nat.le_of_ble_eq_true rfl) (fun p e9 s m args below meth c A Q ls X htab hD hP hS fin hl => ?_)
  obtain ⟨hx, hb, hml, -, -, hown, hts, hK, hA, hE⟩ := id X
  have hl : lv_has ls 5 [(0, .ref (a 0)), (1, .int p1), (2, .int p2), (3, .ref qo)] := hl
  obtain ⟨r, hr, h⟩ := o_b h
  refine lv_aload_n hx hb dL_move_0 rfl (lv_at hl 3 rfl) ?_
  refine lv_iconst (v := 0) hx hb dL_move_1 (by decide) ?_
  refine lv_aload_n hx hb dL_move_2 rfl (lv_at hl 0 rfl) ?_
  refine lv_iload_n hx hb dL_move_3 rfl (lv_at hl 1 rfl) ?_
  refine lv_iload_n hx hb dL_move_4 rfl (lv_at hl 2 rfl) ?_
  have hC := (K6_move D g x l hl0 a e σ p1 p2 r hr).ext _ (mrg_ones _ _ [cOut g qo out] (w6_adr g a e σ r.2.2))
  refine xcallA X (As := [.int p1, .int p2]) (rest := [.int 0, .ref qo]) (st1 := [.int r.2.1, .int 0, .ref qo]) hC mw_X6_move ml_L_85 ⟨(Nat.le_of_ble_eq_true rfl), (Nat.le_of_ble_eq_true rfl)⟩ hP hD hS rfl 0 rfl rfl rfl hl.1 rfl (Nat.le_of_ble_eq_true rfl) dL_move_5 ⟨(Nat.le_of_ble_eq_true rfl), (Nat.le_of_ble_eq_true rfl)⟩ rfl (fun t1 H locs hP hD hS => ?_) (fun t1 H locs q ce hP hD hS hq hqv hqc => ?_)
  · have h := o_t t1 h
    refine lv_i2l (v := Int32.toInt64 r.2.1) hx hb dL_move_8 rfl ?_
    refine mlst X (n := 1) (ws1 := w6 g a e r.2.2 ++ [cOut g qo (vp_updL out (Int32.toNatClampNeg 0) (Int32.toInt64 r.2.1))]) hP hD hS 71 rfl (by decide) dL_move_9 rfl (fun H locs hP hD hS => ?_)
    refine lv_goto (tgt := 25) hx hb dL_move_10 (by decide) ?_
    refine lv_iconst (v := 0) hx hb dL_move_25 (by decide) ?_
    cases h
    exact fin _ _ _ _ _ _ (Nat.le_of_ble_eq_true rfl) (Nat.le_of_ble_eq_true rfl) hP hS dL_move_26
  · have h := o_f t1 h
    by_cases b3 : r.1 = 1
    · have h := o_t b3 h
      rw [b3] at hqc
      refine vx_catch (E := exN 1) (name := exN 1) hown [] ⟨0, 10, 13, 19⟩ [⟨0, 10, 17, 13⟩, ⟨0, 10, 21, 60⟩] (htab.trans rfl) (fun z hz => nomatch hz) (by decide) (by decide) (hts _ clL_1) (va_Nw.use rfl (hE.2.2.2.2.2.2.2.2.1 _ (by decide))) hq hqv hqc ?_
      refine lv_astore (lv' := [(4, .ref q), (0, .ref (a 0)), (1, .int p1), (2, .int p2), (3, .ref qo)]) hx hb dL_move_13 hl (by decide) rfl (fun ls hl => ?_)
      refine lv_iconst (v := 1) hx hb dL_move_15 (by decide) ?_
      cases h
      exact fin _ _ _ _ _ _ (Nat.le_of_ble_eq_true rfl) (Nat.le_of_ble_eq_true rfl) hP hS dL_move_16
    · have h := o_f b3 h
      by_cases b4 : r.1 = 2
      · have h := o_t b4 h
        rw [b4] at hqc
        have hpass : ∀ z ∈ ([⟨0, 10, 13, 19⟩] : List Jvm.ClassFile.ExceptionTableEntry), covers z 5 = false ∨ (z.catchType ≠ 0 ∧ ∃ nm : String, (Cond.classLink RL z.catchType nm).before args s = true ∧ va_Nc (exN 2) nm s) := by
          intro z hz
          simp only [List.mem_cons, List.not_mem_nil, or_false] at hz
          subst hz
          exact Or.inr ⟨by decide, exN 1, hts _ clL_1, hE.2.2.2.2.2.2.2.2.2.1 _ (by decide) _ (by decide) (by decide)⟩
        refine vx_catch (E := exN 2) (name := exN 2) hown [⟨0, 10, 13, 19⟩] ⟨0, 10, 17, 13⟩ [⟨0, 10, 21, 60⟩] (htab.trans rfl) hpass (by decide) (by decide) (hts _ clL_2) (va_Nw.use rfl (hE.2.2.2.2.2.2.2.2.1 _ (by decide))) hq hqv hqc ?_
        refine lv_astore (lv' := [(4, .ref q), (0, .ref (a 0)), (1, .int p1), (2, .int p2), (3, .ref qo)]) hx hb dL_move_17 hl (by decide) rfl (fun ls hl => ?_)
        refine lv_iconst (v := 2) hx hb dL_move_19 (by decide) ?_
        cases h
        exact fin _ _ _ _ _ _ (Nat.le_of_ble_eq_true rfl) (Nat.le_of_ble_eq_true rfl) hP hS dL_move_20
      · have h := o_f b4 h
        by_cases b5 : r.1 = 3
        · have h := o_t b5 h
          rw [b5] at hqc
          have hpass : ∀ z ∈ ([⟨0, 10, 13, 19⟩, ⟨0, 10, 17, 13⟩] : List Jvm.ClassFile.ExceptionTableEntry), covers z 5 = false ∨ (z.catchType ≠ 0 ∧ ∃ nm : String, (Cond.classLink RL z.catchType nm).before args s = true ∧ va_Nc (exN 3) nm s) := by
            intro z hz
            simp only [List.mem_cons, List.not_mem_nil, or_false] at hz
            rcases hz with rfl | rfl
            · exact Or.inr ⟨by decide, exN 1, hts _ clL_1, hE.2.2.2.2.2.2.2.2.2.1 _ (by decide) _ (by decide) (by decide)⟩
            · exact Or.inr ⟨by decide, exN 2, hts _ clL_2, hE.2.2.2.2.2.2.2.2.2.1 _ (by decide) _ (by decide) (by decide)⟩
          refine vx_catch (E := exN 3) (name := exN 3) hown [⟨0, 10, 13, 19⟩, ⟨0, 10, 17, 13⟩] ⟨0, 10, 21, 60⟩ [] (htab.trans rfl) hpass (by decide) (by decide) (hts _ clL_3) (va_Nw.use rfl (hE.2.2.2.2.2.2.2.2.1 _ (by decide))) hq hqv hqc ?_
          refine lv_astore (lv' := [(4, .ref q), (0, .ref (a 0)), (1, .int p1), (2, .int p2), (3, .ref qo)]) hx hb dL_move_21 hl (by decide) rfl (fun ls hl => ?_)
          refine lv_iconst (v := 3) hx hb dL_move_23 (by decide) ?_
          cases h
          exact fin _ _ _ _ _ _ (Nat.le_of_ble_eq_true rfl) (Nat.le_of_ble_eq_true rfl) hP hS dL_move_24
        · have h := o_f b5 h
          cases h
def h_setValue (σ : S6) (p1 : Int32) (p2 : Int32) (out : Nat → Int64) : Option (Int32 × S6 × (Nat → Int64)) := (s6_setValue σ p1 p2).bind fun r => if r.1 = 0 then some (0, r.2.2, vp_updL out (Int32.toNatClampNeg 0) (Int32.toInt64 r.2.1)) else if r.1 = 1 then some (1, r.2.2, out) else if r.1 = 2 then some (2, r.2.2, out) else none
set_option maxHeartbeats 4000000 in
set_option maxRecDepth 100000 in
theorem H_setValue (D : va_G) (g : Nat → ClassId) (x : Xd) (l : Launch) (hl0 : l.stackTraces = false) (a : Nat → Nat) (e : Nat → Nat → Nat) (qo : Nat) (σ : S6) (p1 : Int32) (p2 : Int32) (out : Nat → Int64) (R : Int32 × S6 × (Nat → Int64)) (h : h_setValue σ p1 p2 out = some R) : CnM D g x l yL_setValue cL_setValue 5 [(0, 10, 13, 19), (0, 10, 17, 13)] 9 156 2 [.ref (a 0), .int p1, .int p2, .ref qo] (w6 g a e σ ++ [cOut g qo out]) (w6 g a e R.2.1 ++ [cOut g qo R.2.2]) (some (.int R.1)) := by
  refine CnM.mk (by decide +kernel) (Nat.le_of_ble_eq_true rfl) (fun p e9 s m args below meth c A Q ls X htab hD hP hS fin hl => ?_)
  obtain ⟨hx, hb, hml, -, -, hown, hts, hK, hA, hE⟩ := id X
  have hl : lv_has ls 5 [(0, .ref (a 0)), (1, .int p1), (2, .int p2), (3, .ref qo)] := hl
  obtain ⟨r, hr, h⟩ := o_b h
  refine lv_aload_n hx hb dL_setValue_0 rfl (lv_at hl 3 rfl) ?_
  refine lv_iconst (v := 0) hx hb dL_setValue_1 (by decide) ?_
  refine lv_aload_n hx hb dL_setValue_2 rfl (lv_at hl 0 rfl) ?_
  refine lv_iload_n hx hb dL_setValue_3 rfl (lv_at hl 1 rfl) ?_
  refine lv_iload_n hx hb dL_setValue_4 rfl (lv_at hl 2 rfl) ?_
  have hC := (K6_setValue D g x l hl0 a e σ p1 p2 r hr).ext _ (mrg_ones _ _ [cOut g qo out] (w6_adr g a e σ r.2.2))
  refine xcallA X (As := [.int p1, .int p2]) (rest := [.int 0, .ref qo]) (st1 := [.int r.2.1, .int 0, .ref qo]) hC mw_X6_setValue ml_L_88 ⟨(Nat.le_of_ble_eq_true rfl), (Nat.le_of_ble_eq_true rfl)⟩ hP hD hS rfl 0 rfl rfl rfl hl.1 rfl (Nat.le_of_ble_eq_true rfl) dL_setValue_5 ⟨(Nat.le_of_ble_eq_true rfl), (Nat.le_of_ble_eq_true rfl)⟩ rfl (fun t1 H locs hP hD hS => ?_) (fun t1 H locs q ce hP hD hS hq hqv hqc => ?_)
  · have h := o_t t1 h
    refine lv_i2l (v := Int32.toInt64 r.2.1) hx hb dL_setValue_8 rfl ?_
    refine mlst X (n := 1) (ws1 := w6 g a e r.2.2 ++ [cOut g qo (vp_updL out (Int32.toNatClampNeg 0) (Int32.toInt64 r.2.1))]) hP hD hS 71 rfl (by decide) dL_setValue_9 rfl (fun H locs hP hD hS => ?_)
    refine lv_goto (tgt := 21) hx hb dL_setValue_10 (by decide) ?_
    refine lv_iconst (v := 0) hx hb dL_setValue_21 (by decide) ?_
    cases h
    exact fin _ _ _ _ _ _ (Nat.le_of_ble_eq_true rfl) (Nat.le_of_ble_eq_true rfl) hP hS dL_setValue_22
  · have h := o_f t1 h
    by_cases b3 : r.1 = 1
    · have h := o_t b3 h
      rw [b3] at hqc
      refine vx_catch (E := exN 1) (name := exN 1) hown [] ⟨0, 10, 13, 19⟩ [⟨0, 10, 17, 13⟩] (htab.trans rfl) (fun z hz => nomatch hz) (by decide) (by decide) (hts _ clL_1) (va_Nw.use rfl (hE.2.2.2.2.2.2.2.2.1 _ (by decide))) hq hqv hqc ?_
      refine lv_astore (lv' := [(4, .ref q), (0, .ref (a 0)), (1, .int p1), (2, .int p2), (3, .ref qo)]) hx hb dL_setValue_13 hl (by decide) rfl (fun ls hl => ?_)
      refine lv_iconst (v := 1) hx hb dL_setValue_15 (by decide) ?_
      cases h
      exact fin _ _ _ _ _ _ (Nat.le_of_ble_eq_true rfl) (Nat.le_of_ble_eq_true rfl) hP hS dL_setValue_16
    · have h := o_f b3 h
      by_cases b4 : r.1 = 2
      · have h := o_t b4 h
        rw [b4] at hqc
        have hpass : ∀ z ∈ ([⟨0, 10, 13, 19⟩] : List Jvm.ClassFile.ExceptionTableEntry), covers z 5 = false ∨ (z.catchType ≠ 0 ∧ ∃ nm : String, (Cond.classLink RL z.catchType nm).before args s = true ∧ va_Nc (exN 2) nm s) := by
          intro z hz
          simp only [List.mem_cons, List.not_mem_nil, or_false] at hz
          subst hz
          exact Or.inr ⟨by decide, exN 1, hts _ clL_1, hE.2.2.2.2.2.2.2.2.2.1 _ (by decide) _ (by decide) (by decide)⟩
        refine vx_catch (E := exN 2) (name := exN 2) hown [⟨0, 10, 13, 19⟩] ⟨0, 10, 17, 13⟩ [] (htab.trans rfl) hpass (by decide) (by decide) (hts _ clL_2) (va_Nw.use rfl (hE.2.2.2.2.2.2.2.2.1 _ (by decide))) hq hqv hqc ?_
        refine lv_astore (lv' := [(4, .ref q), (0, .ref (a 0)), (1, .int p1), (2, .int p2), (3, .ref qo)]) hx hb dL_setValue_17 hl (by decide) rfl (fun ls hl => ?_)
        refine lv_iconst (v := 2) hx hb dL_setValue_19 (by decide) ?_
        cases h
        exact fin _ _ _ _ _ _ (Nat.le_of_ble_eq_true rfl) (Nat.le_of_ble_eq_true rfl) hP hS dL_setValue_20
      · have h := o_f b4 h
        cases h
def h_setWeight (σ : S6) (p1 : Int32) (p2 : Int32) (out : Nat → Int64) : Option (Int32 × S6 × (Nat → Int64)) := (s6_setWeight σ p1 p2).bind fun r => if r.1 = 0 then some (0, r.2.2, vp_updL out (Int32.toNatClampNeg 0) (Int32.toInt64 r.2.1)) else if r.1 = 1 then some (1, r.2.2, out) else if r.1 = 2 then some (2, r.2.2, out) else none
set_option maxHeartbeats 4000000 in
set_option maxRecDepth 100000 in
theorem H_setWeight (D : va_G) (g : Nat → ClassId) (x : Xd) (l : Launch) (hl0 : l.stackTraces = false) (a : Nat → Nat) (e : Nat → Nat → Nat) (qo : Nat) (σ : S6) (p1 : Int32) (p2 : Int32) (out : Nat → Int64) (R : Int32 × S6 × (Nat → Int64)) (h : h_setWeight σ p1 p2 out = some R) : CnM D g x l yL_setWeight cL_setWeight 5 [(0, 10, 13, 19), (0, 10, 17, 13)] 9 156 2 [.ref (a 0), .int p1, .int p2, .ref qo] (w6 g a e σ ++ [cOut g qo out]) (w6 g a e R.2.1 ++ [cOut g qo R.2.2]) (some (.int R.1)) := by
  refine CnM.mk (by decide +kernel) (Nat.le_of_ble_eq_true rfl) (fun p e9 s m args below meth c A Q ls X htab hD hP hS fin hl => ?_)
  obtain ⟨hx, hb, hml, -, -, hown, hts, hK, hA, hE⟩ := id X
  have hl : lv_has ls 5 [(0, .ref (a 0)), (1, .int p1), (2, .int p2), (3, .ref qo)] := hl
  obtain ⟨r, hr, h⟩ := o_b h
  refine lv_aload_n hx hb dL_setWeight_0 rfl (lv_at hl 3 rfl) ?_
  refine lv_iconst (v := 0) hx hb dL_setWeight_1 (by decide) ?_
  refine lv_aload_n hx hb dL_setWeight_2 rfl (lv_at hl 0 rfl) ?_
  refine lv_iload_n hx hb dL_setWeight_3 rfl (lv_at hl 1 rfl) ?_
  refine lv_iload_n hx hb dL_setWeight_4 rfl (lv_at hl 2 rfl) ?_
  have hC := (K6_setWeight D g x l hl0 a e σ p1 p2 r hr).ext _ (mrg_ones _ _ [cOut g qo out] (w6_adr g a e σ r.2.2))
  refine xcallA X (As := [.int p1, .int p2]) (rest := [.int 0, .ref qo]) (st1 := [.int r.2.1, .int 0, .ref qo]) hC mw_X6_setWeight ml_L_91 ⟨(Nat.le_of_ble_eq_true rfl), (Nat.le_of_ble_eq_true rfl)⟩ hP hD hS rfl 0 rfl rfl rfl hl.1 rfl (Nat.le_of_ble_eq_true rfl) dL_setWeight_5 ⟨(Nat.le_of_ble_eq_true rfl), (Nat.le_of_ble_eq_true rfl)⟩ rfl (fun t1 H locs hP hD hS => ?_) (fun t1 H locs q ce hP hD hS hq hqv hqc => ?_)
  · have h := o_t t1 h
    refine lv_i2l (v := Int32.toInt64 r.2.1) hx hb dL_setWeight_8 rfl ?_
    refine mlst X (n := 1) (ws1 := w6 g a e r.2.2 ++ [cOut g qo (vp_updL out (Int32.toNatClampNeg 0) (Int32.toInt64 r.2.1))]) hP hD hS 71 rfl (by decide) dL_setWeight_9 rfl (fun H locs hP hD hS => ?_)
    refine lv_goto (tgt := 21) hx hb dL_setWeight_10 (by decide) ?_
    refine lv_iconst (v := 0) hx hb dL_setWeight_21 (by decide) ?_
    cases h
    exact fin _ _ _ _ _ _ (Nat.le_of_ble_eq_true rfl) (Nat.le_of_ble_eq_true rfl) hP hS dL_setWeight_22
  · have h := o_f t1 h
    by_cases b3 : r.1 = 1
    · have h := o_t b3 h
      rw [b3] at hqc
      refine vx_catch (E := exN 1) (name := exN 1) hown [] ⟨0, 10, 13, 19⟩ [⟨0, 10, 17, 13⟩] (htab.trans rfl) (fun z hz => nomatch hz) (by decide) (by decide) (hts _ clL_1) (va_Nw.use rfl (hE.2.2.2.2.2.2.2.2.1 _ (by decide))) hq hqv hqc ?_
      refine lv_astore (lv' := [(4, .ref q), (0, .ref (a 0)), (1, .int p1), (2, .int p2), (3, .ref qo)]) hx hb dL_setWeight_13 hl (by decide) rfl (fun ls hl => ?_)
      refine lv_iconst (v := 1) hx hb dL_setWeight_15 (by decide) ?_
      cases h
      exact fin _ _ _ _ _ _ (Nat.le_of_ble_eq_true rfl) (Nat.le_of_ble_eq_true rfl) hP hS dL_setWeight_16
    · have h := o_f b3 h
      by_cases b4 : r.1 = 2
      · have h := o_t b4 h
        rw [b4] at hqc
        have hpass : ∀ z ∈ ([⟨0, 10, 13, 19⟩] : List Jvm.ClassFile.ExceptionTableEntry), covers z 5 = false ∨ (z.catchType ≠ 0 ∧ ∃ nm : String, (Cond.classLink RL z.catchType nm).before args s = true ∧ va_Nc (exN 2) nm s) := by
          intro z hz
          simp only [List.mem_cons, List.not_mem_nil, or_false] at hz
          subst hz
          exact Or.inr ⟨by decide, exN 1, hts _ clL_1, hE.2.2.2.2.2.2.2.2.2.1 _ (by decide) _ (by decide) (by decide)⟩
        refine vx_catch (E := exN 2) (name := exN 2) hown [⟨0, 10, 13, 19⟩] ⟨0, 10, 17, 13⟩ [] (htab.trans rfl) hpass (by decide) (by decide) (hts _ clL_2) (va_Nw.use rfl (hE.2.2.2.2.2.2.2.2.1 _ (by decide))) hq hqv hqc ?_
        refine lv_astore (lv' := [(4, .ref q), (0, .ref (a 0)), (1, .int p1), (2, .int p2), (3, .ref qo)]) hx hb dL_setWeight_17 hl (by decide) rfl (fun ls hl => ?_)
        refine lv_iconst (v := 2) hx hb dL_setWeight_19 (by decide) ?_
        cases h
        exact fin _ _ _ _ _ _ (Nat.le_of_ble_eq_true rfl) (Nat.le_of_ble_eq_true rfl) hP hS dL_setWeight_20
      · have h := o_f b4 h
        cases h
def h_addPoint (σ : S6) (p1 : Int32) (p2 : Int32) (p3 : Int32) (out : Nat → Int64) : Option (Int32 × S6 × (Nat → Int64)) := (s6_addPoint σ p1 p2 p3).bind fun r => if r.1 = 0 then some (0, r.2.2, vp_updL out (Int32.toNatClampNeg 0) (Int32.toInt64 r.2.1)) else if r.1 = 2 then some (1, r.2.2, out) else if r.1 = 3 then some (2, r.2.2, out) else none
set_option maxHeartbeats 4000000 in
set_option maxRecDepth 100000 in
theorem H_addPoint (D : va_G) (g : Nat → ClassId) (x : Xd) (l : Launch) (hl0 : l.stackTraces = false) (a : Nat → Nat) (e : Nat → Nat → Nat) (qo : Nat) (σ : S6) (p1 : Int32) (p2 : Int32) (p3 : Int32) (out : Nat → Int64) (R : Int32 × S6 × (Nat → Int64)) (h : h_addPoint σ p1 p2 p3 out = some R) : CnM D g x l yL_addPoint cL_addPoint 6 [(0, 12, 15, 13), (0, 12, 19, 60)] 9 156 5 [.ref (a 0), .int p1, .int p2, .int p3, .ref qo] (w6 g a e σ ++ [cOut g qo out]) (w6 g a e R.2.1 ++ [cOut g qo R.2.2]) (some (.int R.1)) := by
  refine CnM.mk (by decide +kernel) (Nat.le_of_ble_eq_true rfl) (fun p e9 s m args below meth c A Q ls X htab hD hP hS fin hl => ?_)
  obtain ⟨hx, hb, hml, -, -, hown, hts, hK, hA, hE⟩ := id X
  have hl : lv_has ls 6 [(0, .ref (a 0)), (1, .int p1), (2, .int p2), (3, .int p3), (4, .ref qo)] := hl
  obtain ⟨r, hr, h⟩ := o_b h
  refine lv_aload hx hb dL_addPoint_0 (lv_at hl 4 rfl) ?_
  refine lv_iconst (v := 0) hx hb dL_addPoint_2 (by decide) ?_
  refine lv_aload_n hx hb dL_addPoint_3 rfl (lv_at hl 0 rfl) ?_
  refine lv_iload_n hx hb dL_addPoint_4 rfl (lv_at hl 1 rfl) ?_
  refine lv_iload_n hx hb dL_addPoint_5 rfl (lv_at hl 2 rfl) ?_
  refine lv_iload_n hx hb dL_addPoint_6 rfl (lv_at hl 3 rfl) ?_
  have hC := (K6_addPoint D g x l hl0 a e σ p1 p2 p3 r hr).ext _ (mrg_ones _ _ [cOut g qo out] (w6_adr g a e σ r.2.2))
  refine xcallA X (As := [.int p1, .int p2, .int p3]) (rest := [.int 0, .ref qo]) (st1 := [.int r.2.1, .int 0, .ref qo]) hC mw_X6_addPoint ml_L_94 ⟨(Nat.le_of_ble_eq_true rfl), (Nat.le_of_ble_eq_true rfl)⟩ hP hD hS rfl 0 rfl rfl rfl hl.1 rfl (Nat.le_of_ble_eq_true rfl) dL_addPoint_7 ⟨(Nat.le_of_ble_eq_true rfl), (Nat.le_of_ble_eq_true rfl)⟩ rfl (fun t1 H locs hP hD hS => ?_) (fun t1 H locs q ce hP hD hS hq hqv hqc => ?_)
  · have h := o_t t1 h
    refine lv_i2l (v := Int32.toInt64 r.2.1) hx hb dL_addPoint_10 rfl ?_
    refine mlst X (n := 1) (ws1 := w6 g a e r.2.2 ++ [cOut g qo (vp_updL out (Int32.toNatClampNeg 0) (Int32.toInt64 r.2.1))]) hP hD hS 71 rfl (by decide) dL_addPoint_11 rfl (fun H locs hP hD hS => ?_)
    refine lv_goto (tgt := 23) hx hb dL_addPoint_12 (by decide) ?_
    refine lv_iconst (v := 0) hx hb dL_addPoint_23 (by decide) ?_
    cases h
    exact fin _ _ _ _ _ _ (Nat.le_of_ble_eq_true rfl) (Nat.le_of_ble_eq_true rfl) hP hS dL_addPoint_24
  · have h := o_f t1 h
    by_cases b3 : r.1 = 2
    · have h := o_t b3 h
      rw [b3] at hqc
      refine vx_catch (E := exN 2) (name := exN 2) hown [] ⟨0, 12, 15, 13⟩ [⟨0, 12, 19, 60⟩] (htab.trans rfl) (fun z hz => nomatch hz) (by decide) (by decide) (hts _ clL_2) (va_Nw.use rfl (hE.2.2.2.2.2.2.2.2.1 _ (by decide))) hq hqv hqc ?_
      refine lv_astore (lv' := [(5, .ref q), (0, .ref (a 0)), (1, .int p1), (2, .int p2), (3, .int p3), (4, .ref qo)]) hx hb dL_addPoint_15 hl (by decide) rfl (fun ls hl => ?_)
      refine lv_iconst (v := 1) hx hb dL_addPoint_17 (by decide) ?_
      cases h
      exact fin _ _ _ _ _ _ (Nat.le_of_ble_eq_true rfl) (Nat.le_of_ble_eq_true rfl) hP hS dL_addPoint_18
    · have h := o_f b3 h
      by_cases b4 : r.1 = 3
      · have h := o_t b4 h
        rw [b4] at hqc
        have hpass : ∀ z ∈ ([⟨0, 12, 15, 13⟩] : List Jvm.ClassFile.ExceptionTableEntry), covers z 7 = false ∨ (z.catchType ≠ 0 ∧ ∃ nm : String, (Cond.classLink RL z.catchType nm).before args s = true ∧ va_Nc (exN 3) nm s) := by
          intro z hz
          simp only [List.mem_cons, List.not_mem_nil, or_false] at hz
          subst hz
          exact Or.inr ⟨by decide, exN 2, hts _ clL_2, hE.2.2.2.2.2.2.2.2.2.1 _ (by decide) _ (by decide) (by decide)⟩
        refine vx_catch (E := exN 3) (name := exN 3) hown [⟨0, 12, 15, 13⟩] ⟨0, 12, 19, 60⟩ [] (htab.trans rfl) hpass (by decide) (by decide) (hts _ clL_3) (va_Nw.use rfl (hE.2.2.2.2.2.2.2.2.1 _ (by decide))) hq hqv hqc ?_
        refine lv_astore (lv' := [(5, .ref q), (0, .ref (a 0)), (1, .int p1), (2, .int p2), (3, .int p3), (4, .ref qo)]) hx hb dL_addPoint_19 hl (by decide) rfl (fun ls hl => ?_)
        refine lv_iconst (v := 2) hx hb dL_addPoint_21 (by decide) ?_
        cases h
        exact fin _ _ _ _ _ _ (Nat.le_of_ble_eq_true rfl) (Nat.le_of_ble_eq_true rfl) hP hS dL_addPoint_22
      · have h := o_f b4 h
        cases h
def h_removePoint (σ : S6) (p1 : Int32) (out : Nat → Int64) : Option (Int32 × S6 × (Nat → Int64)) := (s6_removePoint σ p1).bind fun r => if r.1 = 0 then some (0, r.2.2, vp_updL out (Int32.toNatClampNeg 0) (Int32.toInt64 r.2.1)) else if r.1 = 1 then some (1, r.2.2, out) else none
set_option maxHeartbeats 4000000 in
set_option maxRecDepth 100000 in
theorem H_removePoint (D : va_G) (g : Nat → ClassId) (x : Xd) (l : Launch) (hl0 : l.stackTraces = false) (a : Nat → Nat) (e : Nat → Nat → Nat) (qo : Nat) (σ : S6) (p1 : Int32) (out : Nat → Int64) (R : Int32 × S6 × (Nat → Int64)) (h : h_removePoint σ p1 out = some R) : CnM D g x l yL_removePoint cL_removePoint 4 [(0, 9, 12, 19)] 8 143 1 [.ref (a 0), .int p1, .ref qo] (w6 g a e σ ++ [cOut g qo out]) (w6 g a e R.2.1 ++ [cOut g qo R.2.2]) (some (.int R.1)) := by
  refine CnM.mk (by decide +kernel) (Nat.le_of_ble_eq_true rfl) (fun p e9 s m args below meth c A Q ls X htab hD hP hS fin hl => ?_)
  obtain ⟨hx, hb, hml, -, -, hown, hts, hK, hA, hE⟩ := id X
  have hl : lv_has ls 4 [(0, .ref (a 0)), (1, .int p1), (2, .ref qo)] := hl
  obtain ⟨r, hr, h⟩ := o_b h
  refine lv_aload_n hx hb dL_removePoint_0 rfl (lv_at hl 2 rfl) ?_
  refine lv_iconst (v := 0) hx hb dL_removePoint_1 (by decide) ?_
  refine lv_aload_n hx hb dL_removePoint_2 rfl (lv_at hl 0 rfl) ?_
  refine lv_iload_n hx hb dL_removePoint_3 rfl (lv_at hl 1 rfl) ?_
  have hC := (K6_removePoint D g x l hl0 a e σ p1 r hr).ext _ (mrg_ones _ _ [cOut g qo out] (w6_adr g a e σ r.2.2))
  refine xcallA X (As := [.int p1]) (rest := [.int 0, .ref qo]) (st1 := [.int r.2.1, .int 0, .ref qo]) hC mw_X6_removePoint ml_L_98 ⟨(Nat.le_of_ble_eq_true rfl), (Nat.le_of_ble_eq_true rfl)⟩ hP hD hS rfl 0 rfl rfl rfl hl.1 rfl (Nat.le_of_ble_eq_true rfl) dL_removePoint_4 ⟨(Nat.le_of_ble_eq_true rfl), (Nat.le_of_ble_eq_true rfl)⟩ rfl (fun t1 H locs hP hD hS => ?_) (fun t1 H locs q ce hP hD hS hq hqv hqc => ?_)
  · have h := o_t t1 h
    refine lv_i2l (v := Int32.toInt64 r.2.1) hx hb dL_removePoint_7 rfl ?_
    refine mlst X (n := 1) (ws1 := w6 g a e r.2.2 ++ [cOut g qo (vp_updL out (Int32.toNatClampNeg 0) (Int32.toInt64 r.2.1))]) hP hD hS 71 rfl (by decide) dL_removePoint_8 rfl (fun H locs hP hD hS => ?_)
    refine lv_goto (tgt := 15) hx hb dL_removePoint_9 (by decide) ?_
    refine lv_iconst (v := 0) hx hb dL_removePoint_15 (by decide) ?_
    cases h
    exact fin _ _ _ _ _ _ (Nat.le_of_ble_eq_true rfl) (Nat.le_of_ble_eq_true rfl) hP hS dL_removePoint_16
  · have h := o_f t1 h
    by_cases b3 : r.1 = 1
    · have h := o_t b3 h
      rw [b3] at hqc
      refine vx_catch (E := exN 1) (name := exN 1) hown [] ⟨0, 9, 12, 19⟩ [] (htab.trans rfl) (fun z hz => nomatch hz) (by decide) (by decide) (hts _ clL_1) (va_Nw.use rfl (hE.2.2.2.2.2.2.2.2.1 _ (by decide))) hq hqv hqc ?_
      refine lv_astore_n (lv' := [(3, .ref q), (0, .ref (a 0)), (1, .int p1), (2, .ref qo)]) hx hb dL_removePoint_12 rfl hl (by decide) rfl (fun ls hl => ?_)
      refine lv_iconst (v := 1) hx hb dL_removePoint_13 (by decide) ?_
      cases h
      exact fin _ _ _ _ _ _ (Nat.le_of_ble_eq_true rfl) (Nat.le_of_ble_eq_true rfl) hP hS dL_removePoint_14
    · have h := o_f b3 h
      cases h
def h_setMode (σ : S6) (p1 : Int32) (p2 : Int32) (out : Nat → Int64) : Option (Int32 × S6 × (Nat → Int64)) := (s6_setMode σ p1 p2).bind fun r => if r.1 = 0 then some (0, r.2.2, vp_updL out (Int32.toNatClampNeg 0) (Int32.toInt64 r.2.1)) else if r.1 = 2 then some (1, r.2.2, out) else none
set_option maxHeartbeats 4000000 in
set_option maxRecDepth 100000 in
theorem H_setMode (D : va_G) (g : Nat → ClassId) (x : Xd) (l : Launch) (hl0 : l.stackTraces = false) (a : Nat → Nat) (e : Nat → Nat → Nat) (qo : Nat) (σ : S6) (p1 : Int32) (p2 : Int32) (out : Nat → Int64) (R : Int32 × S6 × (Nat → Int64)) (h : h_setMode σ p1 p2 out = some R) : CnM D g x l yL_setMode cL_setMode 5 [(0, 10, 13, 13)] 8 145 2 [.ref (a 0), .int p1, .int p2, .ref qo] (w6 g a e σ ++ [cOut g qo out]) (w6 g a e R.2.1 ++ [cOut g qo R.2.2]) (some (.int R.1)) := by
  refine CnM.mk (by decide +kernel) (Nat.le_of_ble_eq_true rfl) (fun p e9 s m args below meth c A Q ls X htab hD hP hS fin hl => ?_)
  obtain ⟨hx, hb, hml, -, -, hown, hts, hK, hA, hE⟩ := id X
  have hl : lv_has ls 5 [(0, .ref (a 0)), (1, .int p1), (2, .int p2), (3, .ref qo)] := hl
  obtain ⟨r, hr, h⟩ := o_b h
  refine lv_aload_n hx hb dL_setMode_0 rfl (lv_at hl 3 rfl) ?_
  refine lv_iconst (v := 0) hx hb dL_setMode_1 (by decide) ?_
  refine lv_aload_n hx hb dL_setMode_2 rfl (lv_at hl 0 rfl) ?_
  refine lv_iload_n hx hb dL_setMode_3 rfl (lv_at hl 1 rfl) ?_
  refine lv_iload_n hx hb dL_setMode_4 rfl (lv_at hl 2 rfl) ?_
  have hC := (K6_setMode D g x l hl0 a e σ p1 p2 r hr).ext _ (mrg_ones _ _ [cOut g qo out] (w6_adr g a e σ r.2.2))
  refine xcallA X (As := [.int p1, .int p2]) (rest := [.int 0, .ref qo]) (st1 := [.int r.2.1, .int 0, .ref qo]) hC mw_X6_setMode ml_L_101 ⟨(Nat.le_of_ble_eq_true rfl), (Nat.le_of_ble_eq_true rfl)⟩ hP hD hS rfl 0 rfl rfl rfl hl.1 rfl (Nat.le_of_ble_eq_true rfl) dL_setMode_5 ⟨(Nat.le_of_ble_eq_true rfl), (Nat.le_of_ble_eq_true rfl)⟩ rfl (fun t1 H locs hP hD hS => ?_) (fun t1 H locs q ce hP hD hS hq hqv hqc => ?_)
  · have h := o_t t1 h
    refine lv_i2l (v := Int32.toInt64 r.2.1) hx hb dL_setMode_8 rfl ?_
    refine mlst X (n := 1) (ws1 := w6 g a e r.2.2 ++ [cOut g qo (vp_updL out (Int32.toNatClampNeg 0) (Int32.toInt64 r.2.1))]) hP hD hS 71 rfl (by decide) dL_setMode_9 rfl (fun H locs hP hD hS => ?_)
    refine lv_goto (tgt := 17) hx hb dL_setMode_10 (by decide) ?_
    refine lv_iconst (v := 0) hx hb dL_setMode_17 (by decide) ?_
    cases h
    exact fin _ _ _ _ _ _ (Nat.le_of_ble_eq_true rfl) (Nat.le_of_ble_eq_true rfl) hP hS dL_setMode_18
  · have h := o_f t1 h
    by_cases b3 : r.1 = 2
    · have h := o_t b3 h
      rw [b3] at hqc
      refine vx_catch (E := exN 2) (name := exN 2) hown [] ⟨0, 10, 13, 13⟩ [] (htab.trans rfl) (fun z hz => nomatch hz) (by decide) (by decide) (hts _ clL_2) (va_Nw.use rfl (hE.2.2.2.2.2.2.2.2.1 _ (by decide))) hq hqv hqc ?_
      refine lv_astore (lv' := [(4, .ref q), (0, .ref (a 0)), (1, .int p1), (2, .int p2), (3, .ref qo)]) hx hb dL_setMode_13 hl (by decide) rfl (fun ls hl => ?_)
      refine lv_iconst (v := 1) hx hb dL_setMode_15 (by decide) ?_
      cases h
      exact fin _ _ _ _ _ _ (Nat.le_of_ble_eq_true rfl) (Nat.le_of_ble_eq_true rfl) hP hS dL_setMode_16
    · have h := o_f b3 h
      cases h
def h_shift (σ : S6) (p1 : Int32) (out : Nat → Int64) : Option (Int32 × S6 × (Nat → Int64)) := (s6_shift σ p1).bind fun r => if r.1 = 0 then some (0, r.2.2, vp_updL out (Int32.toNatClampNeg 0) (Int32.toInt64 r.2.1)) else if r.1 = 2 then some (1, r.2.2, out) else if r.1 = 3 then some (2, r.2.2, out) else none
set_option maxHeartbeats 4000000 in
set_option maxRecDepth 100000 in
theorem H_shift (D : va_G) (g : Nat → ClassId) (x : Xd) (l : Launch) (hl0 : l.stackTraces = false) (a : Nat → Nat) (e : Nat → Nat → Nat) (qo : Nat) (σ : S6) (p1 : Int32) (out : Nat → Int64) (R : Int32 × S6 × (Nat → Int64)) (h : h_shift σ p1 out = some R) : CnM D g x l yL_shift cL_shift 4 [(0, 9, 12, 13), (0, 9, 15, 60)] 9 155 2 [.ref (a 0), .int p1, .ref qo] (w6 g a e σ ++ [cOut g qo out]) (w6 g a e R.2.1 ++ [cOut g qo R.2.2]) (some (.int R.1)) := by
  refine CnM.mk (by decide +kernel) (Nat.le_of_ble_eq_true rfl) (fun p e9 s m args below meth c A Q ls X htab hD hP hS fin hl => ?_)
  obtain ⟨hx, hb, hml, -, -, hown, hts, hK, hA, hE⟩ := id X
  have hl : lv_has ls 4 [(0, .ref (a 0)), (1, .int p1), (2, .ref qo)] := hl
  obtain ⟨r, hr, h⟩ := o_b h
  refine lv_aload_n hx hb dL_shift_0 rfl (lv_at hl 2 rfl) ?_
  refine lv_iconst (v := 0) hx hb dL_shift_1 (by decide) ?_
  refine lv_aload_n hx hb dL_shift_2 rfl (lv_at hl 0 rfl) ?_
  refine lv_iload_n hx hb dL_shift_3 rfl (lv_at hl 1 rfl) ?_
  have hC := (K6_shift D g x l hl0 a e σ p1 r hr).ext _ (mrg_ones _ _ [cOut g qo out] (w6_adr g a e σ r.2.2))
  refine xcallA X (As := [.int p1]) (rest := [.int 0, .ref qo]) (st1 := [.int r.2.1, .int 0, .ref qo]) hC mw_X6_shift ml_L_104 ⟨(Nat.le_of_ble_eq_true rfl), (Nat.le_of_ble_eq_true rfl)⟩ hP hD hS rfl 0 rfl rfl rfl hl.1 rfl (Nat.le_of_ble_eq_true rfl) dL_shift_4 ⟨(Nat.le_of_ble_eq_true rfl), (Nat.le_of_ble_eq_true rfl)⟩ rfl (fun t1 H locs hP hD hS => ?_) (fun t1 H locs q ce hP hD hS hq hqv hqc => ?_)
  · have h := o_t t1 h
    refine lv_i2l (v := Int32.toInt64 r.2.1) hx hb dL_shift_7 rfl ?_
    refine mlst X (n := 1) (ws1 := w6 g a e r.2.2 ++ [cOut g qo (vp_updL out (Int32.toNatClampNeg 0) (Int32.toInt64 r.2.1))]) hP hD hS 71 rfl (by decide) dL_shift_8 rfl (fun H locs hP hD hS => ?_)
    refine lv_goto (tgt := 18) hx hb dL_shift_9 (by decide) ?_
    refine lv_iconst (v := 0) hx hb dL_shift_18 (by decide) ?_
    cases h
    exact fin _ _ _ _ _ _ (Nat.le_of_ble_eq_true rfl) (Nat.le_of_ble_eq_true rfl) hP hS dL_shift_19
  · have h := o_f t1 h
    by_cases b3 : r.1 = 2
    · have h := o_t b3 h
      rw [b3] at hqc
      refine vx_catch (E := exN 2) (name := exN 2) hown [] ⟨0, 9, 12, 13⟩ [⟨0, 9, 15, 60⟩] (htab.trans rfl) (fun z hz => nomatch hz) (by decide) (by decide) (hts _ clL_2) (va_Nw.use rfl (hE.2.2.2.2.2.2.2.2.1 _ (by decide))) hq hqv hqc ?_
      refine lv_astore_n (lv' := [(3, .ref q), (0, .ref (a 0)), (1, .int p1), (2, .ref qo)]) hx hb dL_shift_12 rfl hl (by decide) rfl (fun ls hl => ?_)
      refine lv_iconst (v := 1) hx hb dL_shift_13 (by decide) ?_
      cases h
      exact fin _ _ _ _ _ _ (Nat.le_of_ble_eq_true rfl) (Nat.le_of_ble_eq_true rfl) hP hS dL_shift_14
    · have h := o_f b3 h
      by_cases b4 : r.1 = 3
      · have h := o_t b4 h
        rw [b4] at hqc
        have hpass : ∀ z ∈ ([⟨0, 9, 12, 13⟩] : List Jvm.ClassFile.ExceptionTableEntry), covers z 4 = false ∨ (z.catchType ≠ 0 ∧ ∃ nm : String, (Cond.classLink RL z.catchType nm).before args s = true ∧ va_Nc (exN 3) nm s) := by
          intro z hz
          simp only [List.mem_cons, List.not_mem_nil, or_false] at hz
          subst hz
          exact Or.inr ⟨by decide, exN 2, hts _ clL_2, hE.2.2.2.2.2.2.2.2.2.1 _ (by decide) _ (by decide) (by decide)⟩
        refine vx_catch (E := exN 3) (name := exN 3) hown [⟨0, 9, 12, 13⟩] ⟨0, 9, 15, 60⟩ [] (htab.trans rfl) hpass (by decide) (by decide) (hts _ clL_3) (va_Nw.use rfl (hE.2.2.2.2.2.2.2.2.1 _ (by decide))) hq hqv hqc ?_
        refine lv_astore_n (lv' := [(3, .ref q), (0, .ref (a 0)), (1, .int p1), (2, .ref qo)]) hx hb dL_shift_15 rfl hl (by decide) rfl (fun ls hl => ?_)
        refine lv_iconst (v := 2) hx hb dL_shift_16 (by decide) ?_
        cases h
        exact fin _ _ _ _ _ _ (Nat.le_of_ble_eq_true rfl) (Nat.le_of_ble_eq_true rfl) hP hS dL_shift_17
      · have h := o_f b4 h
        cases h
def h_written (σ : S6) (p1 : Int32) (out : Nat → Int64) : Option (Int32 × S6 × (Nat → Int64)) := (s6_written σ p1).bind fun r => if r.1 = 0 then some (0, r.2.2, vp_updL out (Int32.toNatClampNeg 0) (Int32.toInt64 r.2.1)) else if r.1 = 1 then some (1, r.2.2, out) else none
set_option maxHeartbeats 4000000 in
set_option maxRecDepth 100000 in
theorem H_written (D : va_G) (g : Nat → ClassId) (x : Xd) (l : Launch) (hl0 : l.stackTraces = false) (a : Nat → Nat) (e : Nat → Nat → Nat) (qo : Nat) (σ : S6) (p1 : Int32) (out : Nat → Int64) (R : Int32 × S6 × (Nat → Int64)) (h : h_written σ p1 out = some R) : CnM D g x l yL_written cL_written 4 [(0, 9, 12, 19)] 7 111 1 [.ref (a 0), .int p1, .ref qo] (w6 g a e σ ++ [cOut g qo out]) (w6 g a e R.2.1 ++ [cOut g qo R.2.2]) (some (.int R.1)) := by
  refine CnM.mk (by decide +kernel) (Nat.le_of_ble_eq_true rfl) (fun p e9 s m args below meth c A Q ls X htab hD hP hS fin hl => ?_)
  obtain ⟨hx, hb, hml, -, -, hown, hts, hK, hA, hE⟩ := id X
  have hl : lv_has ls 4 [(0, .ref (a 0)), (1, .int p1), (2, .ref qo)] := hl
  obtain ⟨r, hr, h⟩ := o_b h
  refine lv_aload_n hx hb dL_written_0 rfl (lv_at hl 2 rfl) ?_
  refine lv_iconst (v := 0) hx hb dL_written_1 (by decide) ?_
  refine lv_aload_n hx hb dL_written_2 rfl (lv_at hl 0 rfl) ?_
  refine lv_iload_n hx hb dL_written_3 rfl (lv_at hl 1 rfl) ?_
  have hC := (K6_written D g x l hl0 a e σ p1 r hr).ext _ (mrg_ones _ _ [cOut g qo out] (w6_adr g a e σ r.2.2))
  refine xcallA X (As := [.int p1]) (rest := [.int 0, .ref qo]) (st1 := [.int r.2.1, .int 0, .ref qo]) hC mw_X6_written ml_L_107 ⟨(Nat.le_of_ble_eq_true rfl), (Nat.le_of_ble_eq_true rfl)⟩ hP hD hS rfl 0 rfl rfl rfl hl.1 rfl (Nat.le_of_ble_eq_true rfl) dL_written_4 ⟨(Nat.le_of_ble_eq_true rfl), (Nat.le_of_ble_eq_true rfl)⟩ rfl (fun t1 H locs hP hD hS => ?_) (fun t1 H locs q ce hP hD hS hq hqv hqc => ?_)
  · have h := o_t t1 h
    refine lv_i2l (v := Int32.toInt64 r.2.1) hx hb dL_written_7 rfl ?_
    refine mlst X (n := 1) (ws1 := w6 g a e r.2.2 ++ [cOut g qo (vp_updL out (Int32.toNatClampNeg 0) (Int32.toInt64 r.2.1))]) hP hD hS 71 rfl (by decide) dL_written_8 rfl (fun H locs hP hD hS => ?_)
    refine lv_goto (tgt := 15) hx hb dL_written_9 (by decide) ?_
    refine lv_iconst (v := 0) hx hb dL_written_15 (by decide) ?_
    cases h
    exact fin _ _ _ _ _ _ (Nat.le_of_ble_eq_true rfl) (Nat.le_of_ble_eq_true rfl) hP hS dL_written_16
  · have h := o_f t1 h
    by_cases b3 : r.1 = 1
    · have h := o_t b3 h
      rw [b3] at hqc
      refine vx_catch (E := exN 1) (name := exN 1) hown [] ⟨0, 9, 12, 19⟩ [] (htab.trans rfl) (fun z hz => nomatch hz) (by decide) (by decide) (hts _ clL_1) (va_Nw.use rfl (hE.2.2.2.2.2.2.2.2.1 _ (by decide))) hq hqv hqc ?_
      refine lv_astore_n (lv' := [(3, .ref q), (0, .ref (a 0)), (1, .int p1), (2, .ref qo)]) hx hb dL_written_12 rfl hl (by decide) rfl (fun ls hl => ?_)
      refine lv_iconst (v := 1) hx hb dL_written_13 (by decide) ?_
      cases h
      exact fin _ _ _ _ _ _ (Nat.le_of_ble_eq_true rfl) (Nat.le_of_ble_eq_true rfl) hP hS dL_written_14
    · have h := o_f b3 h
      cases h
