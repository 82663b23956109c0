/-! Contracts of methods that make cells and may answer: what they leave is said by a post. -/
def CnG (D : va_G) (g : Nat → ClassId) (x : Xd) (l : Launch) (y : MethodName) (cc : ByteArray) (nL : Nat) (ret : Option FieldType) (fr lo mc ms : Nat) (av : List Value) (w0 : va_W) (post : Option Value → va_W → Prop) : Prop :=
  ∀ sz : Nat, Met l y (mws y cc nL ret) (rmC fr lo mc ms) (va_Pc av (fun U => U.heap.size = sz ∧ va_P D vwCl w0 U.heap ∧ va_K D vwCl (tyA g) U ∧ va_D (fun _ => True) w0 ∧ Ext x (va_A w0 sz) U U.heap))
    (fun _ st oc t => ∃ r w1, oc = .returned r ∧ post r w1 ∧ va_P D vwCl w1 t.heap ∧ va_D (va_A w0 sz) w1 ∧ va_F (va_A w0 sz) st t) mc ms (va_A w0 sz)
/-- how such a body ends -/
def FinG (p : Program) (l : Launch) (e : Env) (R : Room) (s : State) (m : MethodId) (args : Array Value) (below : List Frame) (meth : Method) (c : Code) (cc : ByteArray) (D : va_G) (A : Nat → Prop) (Q : State → Prop) (mc ms : Nat) (post : Option Value → va_W → Prop) (i : Instr) (ok : Value → Prop) : Prop :=
  ∀ (v : Option Value) (w1 : va_W) (H : Heap) (locs : List Loc) (pc : Nat) (ls : Array Slot), post v w1 → (∀ z, v = some z → ok z) → (v = none ↔ i = .return_) → va_P D vwCl w1 H → va_D A w1 → va_S A s.heap H locs → decode cc pc = .ok (i, 1) → W p l e R s m args below meth c H locs mc ms Q (F0 m pc ls v.toList)
section CNG
variable {D : va_G} {g : Nat → ClassId} {x : Xd} {l : Launch} {y : MethodName} {cc : ByteArray} {nL fr lo mc ms : Nat} {ret : Option FieldType} {av : List Value} {w0 : va_W} {post : Option Value → va_W → Prop}
theorem CnG.mk (i : Instr) (ok : Value → Prop) (hy : plainFor y = true) (hn : (lg_sl av).length ≤ nL)
    (hret : ∀ {p : Program} {e : Env} {s : State} {m : MethodId} {args : Array Value} {below : List Frame} {meth : Method} {c : Code} {Qc : Array Value → State → Outcome → State → Prop} {free : Addr → Prop} {H : Heap} {locs : List Loc} {pc : Nat} {ls : Array Slot} {v : Option Value}, p.tables.exec = Jvm.exec → c.code = cc → meth.sig.returnType = ret → meth.locks = false → (∀ z, v = some z → ok z) → (v = none ↔ i = .return_) → (∀ t : State, t.heap = H → s.WarmedH t.vm → Qc args s (.returned v) t) → (∀ q ∈ locs, free q.base) → decode cc pc = .ok (i, 1) → W p l e (rmC fr lo mc ms) s m args below meth c H locs mc ms (MQ below Qc args s mc ms free) (F0 m pc ls v.toList))
    (body : ∀ (p : Program) (e : Env) (s : State) (m : MethodId) (args : Array Value) (below : List Frame) (meth : Method) (c : Code) (A : Nat → Prop) (Q : State → Prop) (ls : Array Slot), Cx p s m args meth c y.cls cc nL ret D g x A → meth.name = y.name → va_D A w0 → va_P D vwCl w0 s.heap → va_S A s.heap s.heap [] → FinG p l e (rmC fr lo mc ms) s m args below meth c cc D A Q mc ms post i ok → lv_has ls nL (lv_args 0 av) → W p l e (rmC fr lo mc ms) s m args below meth c s.heap [] 0 0 Q (F0 m 0 ls [])) :
    CnG D g x l y cc nL ret fr lo mc ms av w0 post := by
  intro sz
  refine met_of (cc := cc) (maxL := nL) (ret := ret) hy rfl ?_
  intro p e s m args below meth c s₁ B hml hv
  obtain ⟨rfl, hsz, hP, hK, hD0, hE0⟩ := hv
  subst hsz
  have hts : ∀ w ∈ wG, w.before av.toArray s = true := fun w h => atoms_spec (ws := mws y cc nL ret) B.pre w (List.mem_cons_of_mem _ h)
  have hown : s.vm.findClass y.cls = some m.cls := findClass_of_methodNamed B.named
  have hl := lv_entry av (n := nL) hn
  rw [lg_entry_eq]
  exact body p e s m av.toArray below meth c (va_A w0 s.heap.size) _ _ ⟨B.exec, B.bytes, hml, B.returns, B.notSynchronized, hown, hts, hK, fun q h => Or.inr h, hE0⟩ (name_of_methodNamed B.named B.method).1 hD0.self hP va_S.rf
    (fun v w1 H locs pc ls hp hok hi hP hD hS hdg => hret B.exec B.bytes B.returns B.notSynchronized hok hi (fun t ht hW => ⟨v, w1, rfl, hp, by rw [ht]; exact hP, hD, hS.F ht⟩) hS.2.2 hdg) hl
end CNG
section CNGK
variable {D : va_G} {g : Nat → ClassId} {x : Xd} {l : Launch} {y : MethodName} {cc : ByteArray} {nL fr lo mc ms : Nat} {av : List Value} {w0 : va_W} {post : Option Value → va_W → Prop}
theorem CnG.v (hy : plainFor y = true) (hn : (lg_sl av).length ≤ nL)
    (body : ∀ (p : Program) (e : Env) (s : State) (m : MethodId) (args : Array Value) (below : List Frame) (meth : Method) (c : Code) (A : Nat → Prop) (Q : State → Prop) (ls : Array Slot), Cx p s m args meth c y.cls cc nL none D g x A → meth.name = y.name → va_D A w0 → va_P D vwCl w0 s.heap → va_S A s.heap s.heap [] → FinG p l e (rmC fr lo mc ms) s m args below meth c cc D A Q mc ms post .return_ (fun _ => True) → lv_has ls nL (lv_args 0 av) → W p l e (rmC fr lo mc ms) s m args below meth c s.heap [] 0 0 Q (F0 m 0 ls [])) :
    CnG D g x l y cc nL none fr lo mc ms av w0 post :=
  CnG.mk .return_ _ hy hn (fun {p e s m args below meth c Qc free H locs pc ls v} hx hb hr hlk _ hi hq hf hdg => by
    have hv : v = none := hi.mpr rfl
    subst hv
    exact W.vret hx hb hr hq hf hdg hlk) body
theorem CnG.i {ty : FieldType} (hy : plainFor y = true) (hn : (lg_sl av).length ≤ nL)
    (body : ∀ (p : Program) (e : Env) (s : State) (m : MethodId) (args : Array Value) (below : List Frame) (meth : Method) (c : Code) (A : Nat → Prop) (Q : State → Prop) (ls : Array Slot), Cx p s m args meth c y.cls cc nL (some ty) D g x A → meth.name = y.name → va_D A w0 → va_P D vwCl w0 s.heap → va_S A s.heap s.heap [] → FinG p l e (rmC fr lo mc ms) s m args below meth c cc D A Q mc ms post .ireturn (fun z => ∃ n : Int32, z = .int n ∧ narrow ty (.int n) = .int n) → lv_has ls nL (lv_args 0 av) → W p l e (rmC fr lo mc ms) s m args below meth c s.heap [] 0 0 Q (F0 m 0 ls [])) :
    CnG D g x l y cc nL (some ty) fr lo mc ms av w0 post :=
  CnG.mk .ireturn _ hy hn (fun {p e s m args below meth c Qc free H locs pc ls v} hx hb hr hlk hok hi hq hf hdg => by
    cases v with
    | none => exact absurd (hi.mp rfl) (by intro h; cases h)
    | some z =>
      obtain ⟨n, rfl, hn⟩ := hok z rfl
      exact W.zret hx hb hr hn hq hf hdg hlk) body
theorem CnG.a {ty : FieldType} (hty : (∃ n, ty = .object n) ∨ ∃ t, ty = .array t) (hy : plainFor y = true) (hn : (lg_sl av).length ≤ nL)
    (body : ∀ (p : Program) (e : Env) (s : State) (m : MethodId) (args : Array Value) (below : List Frame) (meth : Method) (c : Code) (A : Nat → Prop) (Q : State → Prop) (ls : Array Slot), Cx p s m args meth c y.cls cc nL (some ty) D g x A → meth.name = y.name → va_D A w0 → va_P D vwCl w0 s.heap → va_S A s.heap s.heap [] → FinG p l e (rmC fr lo mc ms) s m args below meth c cc D A Q mc ms post .areturn (fun z => ∃ a : Nat, z = .ref a) → lv_has ls nL (lv_args 0 av) → W p l e (rmC fr lo mc ms) s m args below meth c s.heap [] 0 0 Q (F0 m 0 ls [])) :
    CnG D g x l y cc nL (some ty) fr lo mc ms av w0 post :=
  CnG.mk .areturn _ hy hn (fun {p e s m args below meth c Qc free H locs pc ls v} hx hb hr hlk hok hi hq hf hdg => by
    cases v with
    | none => exact absurd (hi.mp rfl) (by intro h; cases h)
    | some z =>
      obtain ⟨a, rfl⟩ := hok z rfl
      exact W.aret hx hb hr hty (Or.inr ⟨a, rfl⟩) hq hf hdg hlk) body
end CNGK
/-- a plain contract is such a one -/
theorem Cn.toG {D : va_G} {g : Nat → ClassId} {x : Xd} {l : Launch} {y : MethodName} {cc : ByteArray} {nL fr lo : Nat} {ret : Option FieldType} {av : List Value} {w0 w1 : va_W} {r : Option Value} (hadr : w1.map (fun q => q.1) = w0.map (fun q => q.1)) (h : Cn D g x l y cc nL ret fr lo av w0 w1 r) : CnG D g x l y cc nL ret fr lo 0 0 av w0 (fun v w => v = r ∧ w = w1) := by
  intro sz
  refine Jvm.Free.MetFree.mono (h sz) (fun a s hp => hp) (fun _ _ _ _ _ h => h) (fun a s o t hp hq => ?_)
  obtain ⟨⟨h1, h2, h3⟩, L, h4, h5⟩ := hq
  exact ⟨⟨r, w1, h1, ⟨rfl, rfl⟩, h2, D_adr hadr hp.2.2.2.2.1.self, h3⟩, L, h4, h5⟩
section GCALL
variable {p : Program} {l : Launch} {e : Env} {R : Room} {s : State} {m : MethodId} {args : Array Value} {below : List Frame} {meth : Method} {c : Code} {H : Heap} {locs : List Loc} {cells slots : Nat} {Q : State → Prop}
variable {D : va_G} {g : Nat → ClassId} {x : Xd} {A : Nat → Prop} {own : String} {cc : ByteArray} {nL : Nat} {ret0 : Option FieldType} {ws : va_W} {pc : Nat} {ls : Array Slot} {rest : List Value}
/-- a world's cells, put in another order, some left out -/
theorem gpick {wq : va_W} (is : List Nat) (hnd : va_nd is = true) (hc : is.map (fun i => ws[i]?) = wq.map some) (hP : va_P D vwCl ws H) (hD : va_D A ws) : va_P D vwCl wq H ∧ va_D A wq := by
  refine ⟨hP.sub (ws' := wq) is ?_, hD.sub (ws' := wq) is hnd hc⟩
  have : is.filterMap (fun i => ws[i]?) = (is.map (fun i => ws[i]?)).filterMap id := by rw [List.filterMap_map]; rfl
  rw [this, hc, List.filterMap_map]
  exact List.filterMap_some
theorem gbehind {a : Array Value} {st0 : List Value} {mc ms : Nat} {wr wc : va_W} {post : Option Value → va_W → Prop}
    (hr : va_Run p l e R s m args below meth c H locs cells slots mc ms (F0 m pc ls st0) rest (fun st oc t => ∃ r w1, oc = .returned r ∧ post r w1 ∧ va_P D vwCl w1 t.heap ∧ va_D (va_A wc H.size) w1 ∧ va_F (va_A wc H.size) st t) (va_A wc H.size))
    (hA : ∀ q : Nat, s.heap.size ≤ q → A q) (hP : va_P D vwCl (wr ++ wc) H) (hD : va_D A (wr ++ wc)) (hS : va_S A s.heap H locs)
    (kk : ∀ (r : Option Value) (w1 : va_W) (H1 : Heap) (locs1 : List Loc), post r w1 → va_P D vwCl (wr ++ w1) H1 → va_D A (wr ++ w1) → va_S A s.heap H1 locs1 → W p l e R s m args below meth c H1 locs1 (cells + mc) (slots + ms) Q (F0 m (pc + 3) ls (r.toList ++ rest))) : W p l e R s m args below meth c H locs cells slots Q (F0 m pc ls st0) := by
  have hAm : ∀ q ∈ wr ++ wc, A q.1 := fun q hq => by
    obtain ⟨k, hk⟩ := List.getElem?_of_mem hq
    exact hD.2 k q hk
  have hF : ∀ q, va_A wc H.size q → A q := fun q h => by
    rcases A_mem.mp h with ⟨z, hz, e9⟩ | h
    · rw [← e9]; exact hAm z (List.mem_append_right _ hz)
    · exact hA q (Nat.le_trans hS.1 h)
  have hnd := D_nodup hD
  rw [List.map_append, List.nodup_append] at hnd
  intro T hT X
  obtain ⟨v, st₀, t, T', L, h0, X', hL, e1, e2, ⟨r, w1, hv, hp, hP1, hD1, hz, hk⟩, st⟩ := hr T hT X
  cases hv
  rw [h0] at hz hk
  have hk' : ∀ q : Nat, q < H.size → ¬ va_A wc H.size q → T'.heap[q]? = H[q]? := fun q h1 h2 => by rw [e1]; exact hk q h1 h2
  rw [← e1] at hP1
  have hout : ∀ q ∈ wr, q.1 < H.size ∧ ¬ va_A wc H.size q.1 := fun q hq => by
    have hl := (P_mem.mp hP q (List.mem_append_left _ hq)).lt
    refine ⟨hl, fun h3 => ?_⟩
    rcases A_mem.mp h3 with ⟨z, hz, e9⟩ | h4
    · exact hnd.2.2 q.1 (List.mem_map.mpr ⟨q, hq, rfl⟩) z.1 (List.mem_map.mpr ⟨z, hz, rfl⟩) e9.symm
    · omega
  have hA1 : ∀ q ∈ w1, va_A wc H.size q.1 := fun q hq => by
    obtain ⟨k, hk⟩ := List.getElem?_of_mem hq
    exact hD1.2 k q hk
  have hP2 : va_P D vwCl (wr ++ w1) T'.heap := P_mem.mpr fun q hq => by
    rcases List.mem_append.mp hq with h | h
    · exact (P_mem.mp hP q (List.mem_append_left _ h)).kept (hk' q.1 (hout q h).1 (hout q h).2)
    · exact P_mem.mp hP1 q h
  have hD2 : va_D A (wr ++ w1) := D_of (by
    rw [List.map_append, List.nodup_append]
    refine ⟨hnd.1, D_nodup hD1, fun a ha b hb hab => ?_⟩
    obtain ⟨q, hq, rfl⟩ := List.mem_map.mp ha
    obtain ⟨z, hz, rfl⟩ := List.mem_map.mp hb
    exact (hout q hq).2 (by rw [hab]; exact hA1 z hz)) (fun q hq => by
    rcases List.mem_append.mp hq with h | h
    · exact hAm q (List.mem_append_left _ h)
    · exact hF _ (hA1 q h))
  have hS2 : va_S A s.heap T'.heap (locs ++ L) := ⟨Nat.le_trans hS.1 (by rw [e1]; exact hz), fun q h1 h2 => by
      rw [hk' q (Nat.lt_of_lt_of_le h1 hS.1) (fun z => h2 (hF q z))]; exact hS.2.1 q h1 h2, fun q hq => by
      rcases List.mem_append.mp hq with h | h
      · exact hS.2.2 q h
      · exact hF _ (hL q h)⟩
  obtain ⟨t2, a1, b1⟩ := kk v w1 T'.heap (locs ++ L) hp hP2 hD2 hS2 T' rfl X'
  exact ⟨t2, st t2 a1, b1⟩
/-- what a callee asks holds at the call -/
theorem gpre {wr wc : va_W} (hE : Ext x A s s.heap) (hK : va_K D vwCl (tyA g) s) (hA : ∀ q : Nat, s.heap.size ≤ q → A q) (hP : va_P D vwCl (wr ++ wc) H) (hD : va_D A (wr ++ wc)) (hS : va_S A s.heap H locs) (av : List Value) :
    FrameBlind (va_Pc av (fun U => U.heap.size = H.size ∧ va_P D vwCl wc U.heap ∧ va_K D vwCl (tyA g) U ∧ va_D (fun _ => True) wc ∧ Ext x (va_A wc H.size) U U.heap)) ∧ ∀ U : State, U.heap = H → s.WarmedH U.vm → va_Pc av (fun U => U.heap.size = H.size ∧ va_P D vwCl wc U.heap ∧ va_K D vwCl (tyA g) U ∧ va_D (fun _ => True) wc ∧ Ext x (va_A wc H.size) U U.heap) av.toArray U := by
  have hnd := D_nodup hD
  rw [List.map_append, List.nodup_append] at hnd
  have hPc : va_P D vwCl wc H := P_mem.mpr fun q hq => P_mem.mp hP q (List.mem_append_right _ hq)
  have hDc : va_D (fun _ => True) wc := D_of hnd.2.1 (fun _ _ => trivial)
  have hF : ∀ q, va_A wc H.size q → A q := fun q h => by
    rcases A_mem.mp h with ⟨z, hz, e9⟩ | h
    · rw [← e9]
      obtain ⟨k, hk⟩ := List.getElem?_of_mem (List.mem_append_right wr hz)
      exact hD.2 k z hk
    · exact hA q (Nat.le_trans hS.1 h)
  have hEc : Ext x (va_A wc H.size) s H := (hE.kept (fun a h1 h2 => hS.2.1 a h1 h2)).narrow hF
  refine ⟨fun a U g9 mk q => ?_, fun U hU hW => ⟨rfl, by rw [hU], by rw [hU]; exact hPc, va_K.moved hW.alike hK, hDc, by rw [hU]; exact hEc.warm hW⟩⟩
  obtain ⟨q1, q2, q3, q4, q5, q6⟩ := q
  exact ⟨q1, q2, q3, va_K.moved (u := U) (U := U.calling g9 mk a) (Vm.Alike.refl U.vm) q4, q5, Ext.same (s := U) (U := U.calling g9 mk a) rfl q6⟩
theorem gsig {y : MethodName} {n : Nat} (h : (parseMethodDescriptor y.desc).map (fun d => d.parameters.length) = some n) : ∀ sig, parseMethodDescriptor y.desc = some sig → n = sig.parameters.length := fun sig h1 => by
  rw [h1] at h
  exact (Option.some.inj h).symm
theorem gcallS (X : Cx p s m args meth c own cc nL ret0 D g x A) {y : MethodName} {cy : ByteArray} {nLy fry loy mcy msy n idx : Nat} {rety : Option FieldType} {As st0 : List Value} {wr wc : va_W} {post : Option Value → va_W → Prop}
    (hC : CnG D g x l y cy nLy rety fry loy mcy msy As wc post) (hM : MwS y cy nLy rety n) (hlink : Cond.methodLink own idx y ∈ wG) (hR : fry + 1 ≤ R.frames ∧ 8 + (nLy + 11) + loy ≤ R.locals)
    (is : List Nat) (hnd : va_nd is = true) (hc : is.map (fun i => ws[i]?) = (wr ++ wc).map some) (hP : va_P D vwCl ws H) (hD : va_D A ws) (hS : va_S A s.heap H locs)
    (hn : As.length = n) (hls : ls.size = nL) (hst : st0 = As.reverse ++ rest) (hrm : (rest.map fun v => v.category).sum ≤ 8) (hdg : decode cc pc = .ok (.invokestatic idx, 3)) (hcs : cells + mcy ≤ R.cells ∧ slots + msy ≤ R.slots)
    (kk : ∀ (r : Option Value) (w1 : va_W) (H1 : Heap) (locs1 : List Loc), post r w1 → va_P D vwCl (wr ++ w1) H1 → va_D A (wr ++ w1) → va_S A s.heap H1 locs1 → W p l e R s m args below meth c H1 locs1 (cells + mcy) (slots + msy) Q (F0 m (pc + 3) ls (r.toList ++ rest))) : W p l e R s m args below meth c H locs cells slots Q (F0 m pc ls st0) := by
  obtain ⟨hx, hb, hml, -, -, hown, hts, hK, hA, hE⟩ := X
  obtain ⟨hP, hD⟩ := gpick is hnd hc hP hD
  have hCB : CallB R s args own idx y cy nLy rety (mws y cy nLy rety) (rmC fry loy mcy msy) mcy msy n ∧ (Cond.static y).before args s = true := by
    refine ⟨⟨rfl, rfl, hR.1, hR.2, pay_in hts (mws_good hM.2.2.1), List.mem_cons_self, hts _ hM.2.2.1, hts _ hM.2.1, ⟨hM.2.2.2.1, hM.2.2.2.2.1⟩, gsig hM.2.2.2.2.2, hts _ hlink⟩, hts _ hM.1⟩
  exact gbehind (a := args) (va_runS (As := As) (rest := rest) (n := n) ⟨hx, hb, hml, hown, hts⟩ (hC H.size) hCB (gpre hE hK hA hP hD hS As) rfl hn hls hst (lv_room hrm) hdg hcs) hA hP hD hS kk
theorem gcallV (X : Cx p s m args meth c own cc nL ret0 D g x A) {y : MethodName} {cy : ByteArray} {nLy fry loy mcy msy n idx : Nat} {rety : Option FieldType} {b : Nat} {As st0 : List Value} {wr wc : va_W} {post : Option Value → va_W → Prop}
    (hC : CnG D g x l y cy nLy rety fry loy mcy msy (.ref b :: As) wc post) (hM : MwV y cy nLy rety n) (hlink : Cond.methodLink own idx y ∈ wG) (hR : fry + 1 ≤ R.frames ∧ 8 + (nLy + 11) + loy ≤ R.locals)
    (is : List Nat) (hnd : va_nd is = true) (hc : is.map (fun i => ws[i]?) = (wr ++ wc).map some) (hP : va_P D vwCl ws H) (hD : va_D A ws) (hS : va_S A s.heap H locs) (q0 : Nat) {ci N : Nat} {T : u_T} {fs : List Value} (hq0 : ws[q0]? = some (b, .inr (ci, fs))) (hci : vwCl[ci]? = some (y.cls, T, N))
    (hn : As.length = n) (hls : ls.size = nL) (hst : st0 = As.reverse ++ .ref b :: rest) (hrm : (rest.map fun v => v.category).sum ≤ 8) (hdg : decode cc pc = .ok (.invokevirtual idx, 3)) (hcs : cells + mcy ≤ R.cells ∧ slots + msy ≤ R.slots)
    (kk : ∀ (r : Option Value) (w1 : va_W) (H1 : Heap) (locs1 : List Loc), post r w1 → va_P D vwCl (wr ++ w1) H1 → va_D A (wr ++ w1) → va_S A s.heap H1 locs1 → W p l e R s m args below meth c H1 locs1 (cells + mcy) (slots + msy) Q (F0 m (pc + 3) ls (r.toList ++ rest))) : W p l e R s m args below meth c H locs cells slots Q (F0 m pc ls st0) := by
  obtain ⟨hx, hb, hml, -, -, hown, hts, hK, hA, hE⟩ := X
  have hrc := va_recv hK hP hci hq0
  obtain ⟨hP, hD⟩ := gpick is hnd hc hP hD
  obtain ⟨h1, h2⟩ := gpre (g := g) (x := x) hE hK hA hP hD hS (.ref b :: As)
  exact gbehind (a := args) (va_runV (As := As) (rest := rest) (n := n) (C := y.cls) ⟨hx, hb, hml, hown, hts⟩ (hC H.size) (cwV n hts (mwV_good hM hlink) rfl rfl rfl ⟨rfl, hM.2.2.2.2⟩ hR) ⟨h1, hrc, h2⟩ rfl hn hls hst (lv_room hrm) hdg hcs) hA hP hD hS kk
/-- the words of a call of a method that stands in an upper class -/
def MwU (C : String) (y : MethodName) (cy : ByteArray) (nLy : Nat) (rety : Option FieldType) (n : Nat) : Prop := Cond.sameMethod y.cls y.cls y.name y.desc ∈ wG ∧ Cond.selects C y y ∈ wG ∧ Cond.instanceMethod y ∈ wG ∧ Cond.initialized y.cls ∈ wG ∧ Cond.code y cy nLy rety ∈ wG ∧ (y.cls ≠ "java/lang/invoke/MethodHandle" ∧ y.cls ≠ "java/lang/invoke/VarHandle" ∧ (parseMethodDescriptor y.desc).map (fun d => d.parameters.length) = some n)
theorem mwU_good {C : String} {idx : Nat} {y : MethodName} {cy : ByteArray} {nLy n : Nat} {rety : Option FieldType} (h : MwU C y cy nLy rety n) (hl : Cond.methodLink own idx y ∈ wG) : GoodIn wG (va_wsU own idx C y.cls y y (mws y cy nLy rety)) := by
  intro w hw
  unfold va_wsU at hw
  rcases List.mem_append.mp hw with h1 | h1
  · have : w ∈ wG := by
      simp only [List.mem_cons, List.not_mem_nil, or_false] at h1
      rcases h1 with e | e | e | e | e <;> rw [e]
      · exact hl
      · exact h.1
      · exact h.2.1
      · exact h.2.2.1
      · exact h.2.2.2.1
    exact ⟨this, wG_good this⟩
  · exact mws_good h.2.2.2.2.1 w h1
theorem gcallU (X : Cx p s m args meth c own cc nL ret0 D g x A) {C : String} {y : MethodName} {cy : ByteArray} {nLy fry loy mcy msy n idx : Nat} {rety : Option FieldType} {b : Nat} {As st0 : List Value} {wr wc : va_W} {post : Option Value → va_W → Prop}
    (hC : CnG D g x l y cy nLy rety fry loy mcy msy (.ref b :: As) wc post) (hM : MwU C y cy nLy rety n) (hlink : Cond.methodLink own idx y ∈ wG) (hR : fry + 1 ≤ R.frames ∧ 8 + (nLy + 11) + loy ≤ R.locals)
    (is : List Nat) (hnd : va_nd is = true) (hc : is.map (fun i => ws[i]?) = (wr ++ wc).map some) (hP : va_P D vwCl ws H) (hD : va_D A ws) (hS : va_S A s.heap H locs) (q0 : Nat) {ci N : Nat} {T : u_T} {fs : List Value} (hq0 : ws[q0]? = some (b, .inr (ci, fs))) (hci : vwCl[ci]? = some (C, T, N))
    (hn : As.length = n) (hls : ls.size = nL) (hst : st0 = As.reverse ++ .ref b :: rest) (hrm : (rest.map fun v => v.category).sum ≤ 8) (hdg : decode cc pc = .ok (.invokevirtual idx, 3)) (hcs : cells + mcy ≤ R.cells ∧ slots + msy ≤ R.slots)
    (kk : ∀ (r : Option Value) (w1 : va_W) (H1 : Heap) (locs1 : List Loc), post r w1 → va_P D vwCl (wr ++ w1) H1 → va_D A (wr ++ w1) → va_S A s.heap H1 locs1 → W p l e R s m args below meth c H1 locs1 (cells + mcy) (slots + msy) Q (F0 m (pc + 3) ls (r.toList ++ rest))) : W p l e R s m args below meth c H locs cells slots Q (F0 m pc ls st0) := by
  obtain ⟨hx, hb, hml, -, -, hown, hts, hK, hA, hE⟩ := X
  have hrc := va_recv hK hP hci hq0
  obtain ⟨hP, hD⟩ := gpick is hnd hc hP hD
  obtain ⟨h1, h2⟩ := gpre (g := g) (x := x) hE hK hA hP hD hS (.ref b :: As)
  exact gbehind (a := args) (va_runU (As := As) (rest := rest) (n := n) (C := C) (owner := y.cls) (x := y) ⟨hx, hb, hml, hown, hts⟩ (hC H.size) (va_cwU n hts (mwU_good hM hlink) rfl rfl rfl rfl hM.2.2.2.2.2 hR) ⟨h1, hrc, h2⟩ rfl hn hls hst (lv_room hrm) hdg hcs) hA hP hD hS kk
/-- the words of a call of super -/
def MwP (own : String) (y : MethodName) (cy : ByteArray) (nLy : Nat) (rety : Option FieldType) (n : Nat) : Prop := Cond.sameMethod y.cls y.cls y.name y.desc ∈ wG ∧ Cond.superclass own y.cls ∈ wG ∧ Cond.instanceMethod y ∈ wG ∧ Cond.initialized y.cls ∈ wG ∧ Cond.code y cy nLy rety ∈ wG ∧ (y.name ≠ "<init>" ∧ (parseMethodDescriptor y.desc).map (fun d => d.parameters.length) = some n)
theorem mwP_good {idx : Nat} {y : MethodName} {cy : ByteArray} {nLy n : Nat} {rety : Option FieldType} (h : MwP own y cy nLy rety n) (hl : Cond.methodLink own idx y ∈ wG) : GoodIn wG (va_wsSU own idx y (mws y cy nLy rety)) := by
  intro w hw
  unfold va_wsSU at hw
  rcases List.mem_append.mp hw with h1 | h1
  · have : w ∈ wG := by
      simp only [List.mem_cons, List.not_mem_nil, or_false] at h1
      rcases h1 with e | e | e | e | e <;> rw [e]
      · exact hl
      · exact h.1
      · exact h.2.1
      · exact h.2.2.1
      · exact h.2.2.2.1
    exact ⟨this, wG_good this⟩
  · exact mws_good h.2.2.2.2.1 w h1
theorem gcallP (X : Cx p s m args meth c own cc nL ret0 D g x A) {C : String} {y : MethodName} {cy : ByteArray} {nLy fry loy mcy msy n idx : Nat} {rety : Option FieldType} {b : Nat} {As st0 : List Value} {wr wc : va_W} {post : Option Value → va_W → Prop}
    (hC : CnG D g x l y cy nLy rety fry loy mcy msy (.ref b :: As) wc post) (hM : MwP own y cy nLy rety n) (hlink : Cond.methodLink own idx y ∈ wG) (hR : fry + 1 ≤ R.frames ∧ 8 + (nLy + 11) + loy ≤ R.locals)
    (is : List Nat) (hnd : va_nd is = true) (hc : is.map (fun i => ws[i]?) = (wr ++ wc).map some) (hP : va_P D vwCl ws H) (hD : va_D A ws) (hS : va_S A s.heap H locs) (q0 : Nat) {ci N : Nat} {T : u_T} {fs : List Value} (hq0 : ws[q0]? = some (b, .inr (ci, fs))) (hci : vwCl[ci]? = some (C, T, N))
    (hn : As.length = n) (hls : ls.size = nL) (hst : st0 = As.reverse ++ .ref b :: rest) (hrm : (rest.map fun v => v.category).sum ≤ 8) (hdg : decode cc pc = .ok (.invokespecial idx, 3)) (hcs : cells + mcy ≤ R.cells ∧ slots + msy ≤ R.slots)
    (kk : ∀ (r : Option Value) (w1 : va_W) (H1 : Heap) (locs1 : List Loc), post r w1 → va_P D vwCl (wr ++ w1) H1 → va_D A (wr ++ w1) → va_S A s.heap H1 locs1 → W p l e R s m args below meth c H1 locs1 (cells + mcy) (slots + msy) Q (F0 m (pc + 3) ls (r.toList ++ rest))) : W p l e R s m args below meth c H locs cells slots Q (F0 m pc ls st0) := by
  obtain ⟨hx, hb, hml, -, -, hown, hts, hK, hA, hE⟩ := X
  have hrc := va_recv hK hP hci hq0
  have hat := (hK.1 ci _ hci).2
  obtain ⟨hP, hD⟩ := gpick is hnd hc hP hD
  obtain ⟨h1, h2⟩ := gpre (g := g) (x := x) hE hK hA hP hD hS (.ref b :: As)
  exact gbehind (a := args) (va_runSU (As := As) (rest := rest) (n := n) (C := C) hat ⟨hx, hb, hml, hown, hts⟩ (hC H.size) (va_cwSU n hts (mwP_good hM hlink) rfl rfl rfl hM.2.2.2.2.2 hR) ⟨h1, hrc, h2⟩ rfl hn hls hst (lv_room hrm) hdg hcs) hA hP hD hS kk
/-- the words of a constructor's call, with parameters -/
def MwC (y : MethodName) (cy : ByteArray) (nLy n : Nat) : Prop := y.name = "<init>" ∧ Cond.instanceMethod y ∈ wG ∧ Cond.initialized y.cls ∈ wG ∧ Cond.code y cy nLy none ∈ wG ∧ (y.cls ≠ "java/lang/invoke/MethodHandle" ∧ y.cls ≠ "java/lang/invoke/VarHandle" ∧ (parseMethodDescriptor y.desc).map (fun d => d.parameters.length) = some n)
theorem gcallI (X : Cx p s m args meth c own cc nL ret0 D g x A) {y : MethodName} {cy : ByteArray} {nLy fry loy mcy msy n idx : Nat} {b : Nat} {As st0 : List Value} {wr wc : va_W} {post : Option Value → va_W → Prop}
    (hC : CnG D g x l y cy nLy none fry loy mcy msy (.ref b :: As) wc post) (hM : MwC y cy nLy n) (hlink : Cond.methodLink own idx y ∈ wG) (hR : fry + 1 ≤ R.frames ∧ 8 + (nLy + 11) + loy ≤ R.locals)
    (is : List Nat) (hnd : va_nd is = true) (hc : is.map (fun i => ws[i]?) = (wr ++ wc).map some) (hP : va_P D vwCl ws H) (hD : va_D A ws) (hS : va_S A s.heap H locs)
    (hn : As.length = n) (hls : ls.size = nL) (hst : st0 = As.reverse ++ .ref b :: rest) (hrm : (rest.map fun v => v.category).sum ≤ 8) (hdg : decode cc pc = .ok (.invokespecial idx, 3)) (hcs : cells + mcy ≤ R.cells ∧ slots + msy ≤ R.slots)
    (kk : ∀ (r : Option Value) (w1 : va_W) (H1 : Heap) (locs1 : List Loc), post r w1 → va_P D vwCl (wr ++ w1) H1 → va_D A (wr ++ w1) → va_S A s.heap H1 locs1 → W p l e R s m args below meth c H1 locs1 (cells + mcy) (slots + msy) Q (F0 m (pc + 3) ls (r.toList ++ rest))) : W p l e R s m args below meth c H locs cells slots Q (F0 m pc ls st0) := by
  obtain ⟨hx, hb, hml, -, -, hown, hts, hK, hA, hE⟩ := X
  obtain ⟨hP, hD⟩ := gpick is hnd hc hP hD
  have hCB : CallB R s args own idx y cy nLy none (mws y cy nLy none) (rmC fry loy mcy msy) mcy msy n := ⟨rfl, rfl, hR.1, hR.2, pay_in hts (mws_good hM.2.2.2.1), List.mem_cons_self, hts _ hM.2.2.2.1, hts _ hM.2.2.1, ⟨hM.2.2.2.2.1, hM.2.2.2.2.2.1⟩, gsig hM.2.2.2.2.2.2, hts _ hlink⟩
  exact gbehind (a := args) (va_runI (As := As) (rest := rest) (n := n) ⟨hx, hb, hml, hown, hts⟩ (hC H.size) ⟨hCB, hM.1, hts _ hM.2.1⟩ (gpre hE hK hA hP hD hS (.ref b :: As)) rfl hn hls hst (lv_room hrm) hdg hcs) hA hP hD hS kk
end GCALL
