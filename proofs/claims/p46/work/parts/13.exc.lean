/-! Methods that return or throw: contracts with a tag (0 returned, 1 to 4 thrown), their ends and their calls. -/
abbrev rmX (fr lo mc : Nat) : Room := { frames := fr, cells := mc, slots := 6 * mc, locals := lo }
abbrev exUp : List String := ["java/lang/RuntimeException", "java/lang/Exception"]
def CnX (D : va_G) (g : Nat → ClassId) (x : Xd) (l : Launch) (y : MethodName) (cc : ByteArray) (nL : Nat) (ret : Option FieldType) (fr lo mc : Nat) (av : List Value) (w0 w1 : va_W) (tag : Nat) (r : Option Value) : Prop :=
  ∀ sz : Nat, vx_Met l y (mws y cc nL ret) (rmX fr lo mc) (va_Pc av (fun U => U.heap.size = sz ∧ va_P D vwCl w0 U.heap ∧ va_K D vwCl (tyA g) U ∧ va_D (fun _ => True) w0 ∧ Ext x (va_A w0 sz) U U.heap))
    (fun _ st oc t => tag = 0 ∧ oc = .returned r ∧ va_P D vwCl w1 t.heap ∧ va_F (va_A w0 sz) st t) (fun E st t => tag ≠ 0 ∧ E = exN tag ∧ va_P D vwCl w1 t.heap ∧ va_F (va_A w0 sz) st t) mc (6 * mc) (va_A w0 sz)
/-- the words of a throw of the exception with a tag in the class RX6 -/
def Tw (ik ic tag : Nat) : Prop := Bundle.fit (exN tag) = true ∧ exN tag ∈ exL ∧ Cond.classLink RX6 ik (exN tag) ∈ wG ∧ Cond.initialized (exN tag) ∈ wG ∧ (∀ w ∈ vx_atS RX6 ic (exN tag) exUp, w ∈ wG ∨ w = .castable (exN tag) (exN tag) ∨ ∃ d ∈ dcL, w = .declares d) ∧ (∀ w ∈ Cond.classLink RX6 ik (exN tag) :: Cond.initialized (exN tag) :: vx_atS RX6 ic (exN tag) exUp, vx_ot w = true)
theorem tw_1 : Tw 255 259 1 := ⟨by decide +kernel, by decide +kernel, wG_t 909 (by decide +kernel) (by decide +kernel), wG_t 25 (by decide +kernel) (by decide +kernel), by
  have h : ∀ w ∈ vx_atS RX6 259 (exN 1) exUp, (w ∈ lw_tbl ∧ goodWord w = true) ∨ w = .castable (exN 1) (exN 1) ∨ ∃ d ∈ dcL, w = .declares d := by decide +kernel
  exact fun w hw => (h w hw).imp (fun h => wG_in h.1 h.2) id, by decide +kernel⟩
theorem tw_2 : Tw 269 273 2 := ⟨by decide +kernel, by decide +kernel, wG_t 211 (by decide +kernel) (by decide +kernel), wG_t 23 (by decide +kernel) (by decide +kernel), by
  have h : ∀ w ∈ vx_atS RX6 273 (exN 2) exUp, (w ∈ lw_tbl ∧ goodWord w = true) ∨ w = .castable (exN 2) (exN 2) ∨ ∃ d ∈ dcL, w = .declares d := by decide +kernel
  exact fun w hw => (h w hw).imp (fun h => wG_in h.1 h.2) id, by decide +kernel⟩
def Tn (ik ic tag : Nat) : Prop := tag = 4 ∧ Cond.classLink RX6 ik nsX ∈ wG ∧ Cond.initialized nsX ∈ wG ∧ (∀ w ∈ nsW RX6 ic, w ∈ wG ∨ w = .castable nsX nsX ∨ ∃ d ∈ dcL, w = .declares d) ∧ (∀ w ∈ Cond.classLink RX6 ik nsX :: Cond.initialized nsX :: nsW RX6 ic, vx_ot w = true)
theorem tw_4 : Tn 126 130 4 := ⟨rfl, wG_t 873 (by decide +kernel) (by decide +kernel), wG_t 24 (by decide +kernel) (by decide +kernel), by
  have h : ∀ w ∈ nsW RX6 130, (w ∈ lw_tbl ∧ goodWord w = true) ∨ w = .castable nsX nsX ∨ ∃ d ∈ dcL, w = .declares d := by decide +kernel
  exact fun w hw => (h w hw).imp (fun h => wG_in h.1 h.2) id, by decide +kernel⟩

section XEND
variable {D : va_G} {g : Nat → ClassId} {x : Xd} {l : Launch} {y : MethodName} {cc : ByteArray} {nL : Nat} {ret : Option FieldType} {fr lo mc : Nat} {av : List Value} {w0 w1 : va_W} {tag : Nat}
/-- returned with the answer on the stack -/
def XR (p : Program) (l : Launch) (e : Env) (R : Room) (s : State) (m : MethodId) (args : Array Value) (below : List Frame) (meth : Method) (c : Code) (cc : ByteArray) (D : va_G) (A : Nat → Prop) (Q : State → Prop) (w1 : va_W) (tag mc : Nat) (nar : Prop) (i : Instr) (st : List Value) : Prop :=
  ∀ (H : Heap) (locs : List Loc) (cells slots pc : Nat) (ls : Array Slot), tag = 0 → cells ≤ mc → slots ≤ 6 * mc → nar → va_P D vwCl w1 H → va_S A s.heap H locs → decode cc pc = .ok (i, 1) → W p l e R s m args below meth c H locs cells slots Q (F0 m pc ls st)
/-- a callee threw and nothing is caught -/
def XO (p : Program) (l : Launch) (e : Env) (R : Room) (s : State) (m : MethodId) (args : Array Value) (below : List Frame) (meth : Method) (c : Code) (D : va_G) (A : Nat → Prop) (Q : State → Prop) (w1 : va_W) (tag mc : Nat) : Prop :=
  ∀ (H : Heap) (locs : List Loc) (cells slots pc : Nat) (ls : Array Slot) (rest : List Value) (q : Addr) (ce : Cell), tag ≠ 0 → cells ≤ mc → slots ≤ 6 * mc → va_P D vwCl w1 H → va_S A s.heap H locs → H[q]? = some ce → ce.vm = .none → s.vm.findClass (exN tag) = some ce.cls → vx_W p l e R s m args below meth c H locs cells slots Q (F0 m pc ls rest) q
/-- a throw written here -/
def XT (p : Program) (l : Launch) (e : Env) (R : Room) (s : State) (m : MethodId) (args : Array Value) (below : List Frame) (meth : Method) (c : Code) (cc : ByteArray) (nL : Nat) (x : Xd) (D : va_G) (A : Nat → Prop) (Q : State → Prop) (w1 : va_W) (tag mc : Nat) (own : String) : Prop :=
  own = RX6 → ∀ (H : Heap) (locs : List Loc) (cells slots pc : Nat) (ls : Array Slot) (rest : List Value) (ik ic is i : Nat), tag ≠ 0 → (Tn ik ic tag ∨ Tw ik ic tag) → i < 16 → litO i = RX6 → litK i = is → cells + 1 ≤ mc → slots + 6 ≤ 6 * mc → 5 < R.frames → 90 ≤ R.locals → R.cells = mc → R.slots = 6 * mc → (rest.map fun v => v.category).sum ≤ 8 → va_P D vwCl w1 H → va_S A s.heap H locs → ls.size = nL →
    decode cc pc = .ok (.new ik, 3) → decode cc (pc + 3) = .ok (.dup, 1) →
    ((decode cc (pc + 4) = .ok (.ldc is, 2) ∧ decode cc (pc + 6) = .ok (.invokespecial ic, 3) ∧ decode cc (pc + 9) = .ok (.athrow, 1)) ∨ (decode cc (pc + 4) = .ok (.ldc_w is, 3) ∧ decode cc (pc + 7) = .ok (.invokespecial ic, 3) ∧ decode cc (pc + 10) = .ok (.athrow, 1))) →
    W p l e R s m args below meth c H locs cells slots Q (F0 m pc ls rest)
theorem CnX.mk {r : Option Value} (hy : plainName y.cls = true) (hn : (lg_sl av).length ≤ nL) (nar : Prop) (i : Instr) (st : List Value) (hl0 : l.stackTraces = false)
    (hret : ∀ {p : Program} {e : Env} {s : State} {m : MethodId} {args : Array Value} {below : List Frame} {meth : Method} {c : Code} {Qc : Array Value → State → Outcome → State → Prop} {free : Addr → Prop} {H : Heap} {locs : List Loc} {pc : Nat} {ls : Array Slot}, p.tables.exec = Jvm.exec → c.code = cc → meth.sig.returnType = ret → meth.locks = false → nar → (∀ t : State, t.heap = H → s.WarmedH t.vm → Qc args s (.returned r) t) → (∀ q ∈ locs, free q.base) → decode cc pc = .ok (i, 1) → W p l e (rmX fr lo mc) s m args below meth c H locs mc (6 * mc) (MQ below Qc args s mc (6 * mc) free) (F0 m pc ls st))
    (body : ∀ (p : Program) (e : Env) (s : State) (m : MethodId) (args : Array Value) (below : List Frame) (meth : Method) (c : Code) (A : Nat → Prop) (Q : State → Prop) (ls : Array Slot), Cx p s m args meth c y.cls cc nL ret D g x A → va_D A w0 → va_P D vwCl w0 s.heap → va_S A s.heap s.heap [] → XR p l e (rmX fr lo mc) s m args below meth c cc D A Q w1 tag mc nar i st → XO p l e (rmX fr lo mc) s m args below meth c D A Q w1 tag mc → XT p l e (rmX fr lo mc) s m args below meth c cc nL x D A Q w1 tag mc y.cls → lv_has ls nL (lv_args 0 av) → W p l e (rmX fr lo mc) s m args below meth c s.heap [] 0 0 Q (F0 m 0 ls [])) :
    CnX D g x l y cc nL ret fr lo mc av w0 w1 tag r := by
  intro sz
  refine vx_ofW (cc := cc) (maxL := nL) (ret := ret) hy rfl ?_
  intro p e s m args below meth c s₁ B hml htab hv
  obtain ⟨rfl, hsz, hP, hK, hD0, hE0⟩ := hv
  subst hsz
  have hts : ∀ w ∈ wG, w.before av.toArray s = true := fun w h => atoms_spec (ws := mws y cc nL ret) B.pre w (List.mem_cons_of_mem _ h)
  have hown : s.vm.findClass y.cls = some m.cls := findClass_of_methodNamed B.named
  have hl := lv_entry av (n := nL) hn
  rw [lg_entry_eq]
  refine body p e s m av.toArray below meth c (va_A w0 s.heap.size) _ _ ⟨B.exec, B.bytes, hml, B.returns, B.notSynchronized, hown, hts, hK, fun q h => Or.inr h, hE0⟩ hD0.self hP va_S.rf ?_ ?_ ?_ hl
  · intro H locs cells slots pc ls ht hc hs hnar hP hS hdg
    exact W.widen hc hs (vx_ret (hret B.exec B.bytes B.returns B.notSynchronized hnar (fun t e1 hW => ⟨ht, rfl, by rw [e1]; exact hP, hS.F e1⟩) hS.2.2 hdg))
  · intro H locs cells slots pc ls rest q ce ht hc hs hP hS hq hv hcl
    exact vx_out (fun z hz => (htab z hz).elim) B.notSynchronized hq hv hcl (fun t e1 _ => ⟨ht, rfl, by rw [e1]; exact hP, hS.F e1⟩) hS.2.2 hc hs
  · intro hown6 H locs cells slots pc ls rest ik ic is i9 ht hT hi ho9 hk9 hc hs hf hlo hRc hRs hrest hP hS hls d0 d3 hd
    have hown' : s.vm.findClass RX6 = some m.cls := by rw [← hown6]; exact hown
    have hstr : vk_R RX6 is (litT i9) (x.1 i9) s := by have := hE0.2.2.1 i9 hi; rw [ho9, hk9] at this; exact this
    rcases hT with ⟨T1, T3, T4, T5, T6⟩ | ⟨T1, T2, T3, T4, T5, T6⟩
    · subst T1
      have hat : ∀ w ∈ nsW RX6 ic, w.before av.toArray s = true := fun w hw => (T5 w hw).elim (fun h => hts w h) (fun h => h.elim (fun h => by rw [h]; exact va_Nw.use rfl (hE0.2.2.2.2.2.2.2.2.1 _ (by decide +kernel))) (fun ⟨d, hd, h⟩ => by rw [h]; exact va_Nw.use rfl (hE0.2.2.2.2.2.2.2.2.2.2.1 d hd)))
      have hx : ∀ t : State, s.vm.Alike t.vm → H.size ≤ t.heap.size → (∀ q : Nat, q < H.size → t.heap[q]? = H[q]?) → ((4 : Nat) ≠ 0 ∧ nsX = exN 4 ∧ va_P D vwCl w1 t.heap ∧ va_F (va_A w0 s.heap.size) s t) := fun t _ h1 h2 =>
        ⟨ht, rfl, fun k q hq => (hP k q hq).kept (h2 q.1 (hP k q hq).lt), ⟨Nat.le_trans hS.1 h1, fun q h3 h4 => by rw [h2 q (Nat.lt_of_lt_of_le h3 hS.1)]; exact hS.2.1 q h3 h4⟩⟩
      have hf' : 5 < (rmX fr lo mc).frames := hf
      have hlo' : (rest.map fun v => v.category).sum + 82 ≤ (rmX fr lo mc).locals := by
        show _ + 82 ≤ _
        omega
      have e1 : cells + 1 ≤ (rmX fr lo mc).cells := hc
      have e2 : slots + 6 ≤ (rmX fr lo mc).slots := hs
      rcases hd with ⟨d4, d6, d9⟩ | ⟨d4, d7, d10⟩
      · exact ns_throwS B.exec B.bytes hl0 hown' (hts _ T3) (hts _ T4) hstr hat T6 hE0.2.2.2.2.2.2.1 hE0.2.2.2.2.2.2.2.1 hS (hls.trans hml.symm) d0 d3 d4 d6 d9 (fun z hz => (htab z hz).elim) hf' hlo' e1 e2 B.notSynchronized hx hS.2.2 hc hs
      · exact ns_throwSW B.exec B.bytes hl0 hown' (hts _ T3) (hts _ T4) hstr hat T6 hE0.2.2.2.2.2.2.1 hE0.2.2.2.2.2.2.2.1 hS (hls.trans hml.symm) d0 d3 d4 d7 d10 (fun z hz => (htab z hz).elim) hf' hlo' e1 e2 B.notSynchronized hx hS.2.2 hc hs
    have hat : ∀ w ∈ vx_atS RX6 ic (exN tag) exUp, w.before av.toArray s = true := fun w hw => (T5 w hw).elim (fun h => hts w h) (fun h => h.elim (fun h => by rw [h]; exact va_Nw.use rfl (hE0.2.2.2.2.2.2.2.2.1 _ T2)) (fun ⟨d, hd, h⟩ => by rw [h]; exact va_Nw.use rfl (hE0.2.2.2.2.2.2.2.2.2.2.1 d hd)))
    have hx : ∀ t : State, s.vm.Alike t.vm → H.size ≤ t.heap.size → (∀ q : Nat, q < H.size → t.heap[q]? = H[q]?) → (tag ≠ 0 ∧ exN tag = exN tag ∧ va_P D vwCl w1 t.heap ∧ va_F (va_A w0 s.heap.size) s t) := fun t _ h1 h2 =>
      ⟨ht, rfl, fun k q hq => (hP k q hq).kept (h2 q.1 (hP k q hq).lt), ⟨Nat.le_trans hS.1 h1, fun q h3 h4 => by rw [h2 q (Nat.lt_of_lt_of_le h3 hS.1)]; exact hS.2.1 q h3 h4⟩⟩
    have hf' : exUp.length + 3 < (rmX fr lo mc).frames := by show 5 < _; exact hf
    have hlo' : (rest.map fun v => v.category).sum + (13 * (exUp.length + 1) + 43) ≤ (rmX fr lo mc).locals := by
      show _ + 82 ≤ _
      omega
    have e1 : cells + 1 ≤ (rmX fr lo mc).cells := hc
    have e2 : slots + 6 ≤ (rmX fr lo mc).slots := hs
    rcases hd with ⟨d4, d6, d9⟩ | ⟨d4, d7, d10⟩
    · exact vx_throwS B.exec B.bytes hl0 hown' T1 (by decide +kernel) (hts _ T3) (hts _ T4) hstr hat T6 hE0.2.2.2.2.2.2.1 hE0.2.2.2.2.2.2.2.1 hS (hls.trans hml.symm) d0 d3 d4 d6 d9 (fun z hz => (htab z hz).elim) hf' hlo' e1 e2 B.notSynchronized hx hS.2.2 hc hs
    · exact vx_throwSW B.exec B.bytes hl0 hown' T1 (by decide +kernel) (hts _ T3) (hts _ T4) hstr hat T6 hE0.2.2.2.2.2.2.1 hE0.2.2.2.2.2.2.2.1 hS (hls.trans hml.symm) d0 d3 d4 d7 d10 (fun z hz => (htab z hz).elim) hf' hlo' e1 e2 B.notSynchronized hx hS.2.2 hc hs
end XEND
section XKIND
variable {D : va_G} {g : Nat → ClassId} {x : Xd} {l : Launch} {y : MethodName} {cc : ByteArray} {nL : Nat} {fr lo mc : Nat} {av : List Value} {w0 w1 : va_W} {tag : Nat}
theorem XnI {ty : FieldType} {v : Int32} (hy : plainName y.cls = true) (hn : (lg_sl av).length ≤ nL) (hl0 : l.stackTraces = false)
    (body : ∀ (p : Program) (e : Env) (s : State) (m : MethodId) (args : Array Value) (below : List Frame) (meth : Method) (c : Code) (A : Nat → Prop) (Q : State → Prop) (ls : Array Slot), Cx p s m args meth c y.cls cc nL (some ty) D g x A → va_D A w0 → va_P D vwCl w0 s.heap → va_S A s.heap s.heap [] → XR p l e (rmX fr lo mc) s m args below meth c cc D A Q w1 tag mc (narrow ty (.int v) = .int v) .ireturn [.int v] → XO p l e (rmX fr lo mc) s m args below meth c D A Q w1 tag mc → XT p l e (rmX fr lo mc) s m args below meth c cc nL x D A Q w1 tag mc y.cls → lv_has ls nL (lv_args 0 av) → W p l e (rmX fr lo mc) s m args below meth c s.heap [] 0 0 Q (F0 m 0 ls [])) :
    CnX D g x l y cc nL (some ty) fr lo mc av w0 w1 tag (some (.int v)) :=
  CnX.mk hy hn _ _ _ hl0 (fun hx hb hr hlk hnar hq hf hdg => W.zret hx hb hr hnar hq hf hdg hlk) body
theorem XnL {v : Int64} (hy : plainName y.cls = true) (hn : (lg_sl av).length ≤ nL) (hl0 : l.stackTraces = false)
    (body : ∀ (p : Program) (e : Env) (s : State) (m : MethodId) (args : Array Value) (below : List Frame) (meth : Method) (c : Code) (A : Nat → Prop) (Q : State → Prop) (ls : Array Slot), Cx p s m args meth c y.cls cc nL (some .long) D g x A → va_D A w0 → va_P D vwCl w0 s.heap → va_S A s.heap s.heap [] → XR p l e (rmX fr lo mc) s m args below meth c cc D A Q w1 tag mc True .lreturn [.long v] → XO p l e (rmX fr lo mc) s m args below meth c D A Q w1 tag mc → XT p l e (rmX fr lo mc) s m args below meth c cc nL x D A Q w1 tag mc y.cls → lv_has ls nL (lv_args 0 av) → W p l e (rmX fr lo mc) s m args below meth c s.heap [] 0 0 Q (F0 m 0 ls [])) :
    CnX D g x l y cc nL (some .long) fr lo mc av w0 w1 tag (some (.long v)) :=
  CnX.mk hy hn True _ _ hl0 (fun hx hb hr hlk _ hq hf hdg => W.lret hx hb hr hq hf hdg hlk) body
theorem XnD {v : UInt64} (hy : plainName y.cls = true) (hn : (lg_sl av).length ≤ nL) (hl0 : l.stackTraces = false)
    (body : ∀ (p : Program) (e : Env) (s : State) (m : MethodId) (args : Array Value) (below : List Frame) (meth : Method) (c : Code) (A : Nat → Prop) (Q : State → Prop) (ls : Array Slot), Cx p s m args meth c y.cls cc nL (some .double) D g x A → va_D A w0 → va_P D vwCl w0 s.heap → va_S A s.heap s.heap [] → XR p l e (rmX fr lo mc) s m args below meth c cc D A Q w1 tag mc True .dreturn [.double v] → XO p l e (rmX fr lo mc) s m args below meth c D A Q w1 tag mc → XT p l e (rmX fr lo mc) s m args below meth c cc nL x D A Q w1 tag mc y.cls → lv_has ls nL (lv_args 0 av) → W p l e (rmX fr lo mc) s m args below meth c s.heap [] 0 0 Q (F0 m 0 ls [])) :
    CnX D g x l y cc nL (some .double) fr lo mc av w0 w1 tag (some (.double v)) :=
  CnX.mk hy hn True _ _ hl0 (fun hx hb hr hlk _ hq hf hdg => W.dret hx hb hr hq hf hdg hlk) body
theorem XnV (hy : plainName y.cls = true) (hn : (lg_sl av).length ≤ nL) (hl0 : l.stackTraces = false)
    (body : ∀ (p : Program) (e : Env) (s : State) (m : MethodId) (args : Array Value) (below : List Frame) (meth : Method) (c : Code) (A : Nat → Prop) (Q : State → Prop) (ls : Array Slot), Cx p s m args meth c y.cls cc nL none D g x A → va_D A w0 → va_P D vwCl w0 s.heap → va_S A s.heap s.heap [] → XR p l e (rmX fr lo mc) s m args below meth c cc D A Q w1 tag mc True .return_ [] → XO p l e (rmX fr lo mc) s m args below meth c D A Q w1 tag mc → XT p l e (rmX fr lo mc) s m args below meth c cc nL x D A Q w1 tag mc y.cls → lv_has ls nL (lv_args 0 av) → W p l e (rmX fr lo mc) s m args below meth c s.heap [] 0 0 Q (F0 m 0 ls [])) :
    CnX D g x l y cc nL none fr lo mc av w0 w1 tag none :=
  CnX.mk hy hn True _ _ hl0 (fun hx hb hr hlk _ hq hf hdg => W.vret hx hb hr hq hf hdg hlk) body
end XKIND
section XCALL
variable {p : Program} {l : Launch} {e : Env} {R : Room} {s : State} {m : MethodId} {args : Array Value} {below : List Frame} {meth : Method} {c : Code} {H : Heap} {locs : List Loc} {cells slots : Nat} {Q : State → Prop}
variable {D : va_G} {g : Nat → ClassId} {x : Xd} {A : Nat → Prop} {own : String} {cc : ByteArray} {nL : Nat} {ret0 : Option FieldType}
theorem xbehind {a : Array Value} {rest st1 : List Value} {pc mc tag : Nat} {ls : Array Slot} {st0 : List Value} {ws wc wc1 ws1 : va_W} {r : Option Value}
    (hr : vx_Run p l e R s m args below meth c H locs cells slots mc (6 * mc) (F0 m pc ls st0) rest (fun st oc t => tag = 0 ∧ oc = .returned r ∧ va_P D vwCl wc1 t.heap ∧ va_F (va_A wc H.size) st t) (fun E st t => tag ≠ 0 ∧ E = exN tag ∧ va_P D vwCl wc1 t.heap ∧ va_F (va_A wc H.size) st t) (va_A wc H.size))
    (hA : ∀ q : Nat, s.heap.size ≤ q → A q) (hP : va_P D vwCl ws H) (hD : va_D A ws) (hS : va_S A s.heap H locs) (is : List Nat) (hc : is.map (fun i => ws[i]?) = wc.map some) (hadr : wc1.map (fun q => q.1) = wc.map (fun q => q.1)) (hw : setL ws is wc1 = ws1) (hst : r.toList ++ rest = st1)
    (kk : tag = 0 → ∀ (H1 : Heap) (locs1 : List Loc), va_P D vwCl ws1 H1 → va_D A ws1 → va_S A s.heap H1 locs1 → W p l e R s m args below meth c H1 locs1 (cells + mc) (slots + 6 * mc) Q (F0 m (pc + 3) ls st1))
    (kx : tag ≠ 0 → ∀ (H1 : Heap) (locs1 : List Loc) (q : Addr) (ce : Cell), va_P D vwCl ws1 H1 → va_D A ws1 → va_S A s.heap H1 locs1 → H1[q]? = some ce → ce.vm = .none → s.vm.findClass (exN tag) = some ce.cls → vx_W p l e R s m args below meth c H1 locs1 (cells + mc) (slots + 6 * mc) Q (F0 m pc ls rest) q) : W p l e R s m args below meth c H locs cells slots Q (F0 m pc ls st0) := by
  have hF := va_free hD hS hA is hc
  intro T hT X
  rcases hr T hT X with ⟨v, st₀, t, T', L, h0, X', hL, e1, e2, ⟨ht, hv, hP1, hz, hk⟩, st⟩ | ⟨q, st₀, t, T', L, E, ce, h0, X', hL, e1, e2, ⟨ht, rfl, hP1, hz, hk⟩, hq, hqv, hcl, st⟩
  · cases hv
    rw [h0] at hz hk
    have hk' : ∀ q : Nat, q < H.size → ¬ va_A wc H.size q → T'.heap[q]? = H[q]? := fun q h1 h2 => by rw [e1]; exact hk q h1 h2
    rw [← e1] at hP1
    obtain ⟨hP2, hD2⟩ := setL_world hP hD is hc hadr hk' hP1 hw
    have hS2 : va_S A s.heap T'.heap (locs ++ L) := ⟨Nat.le_trans hS.1 (by rw [e1]; exact hz), fun q h1 h2 => by
        rw [hk' q (Nat.lt_of_lt_of_le h1 hS.1) (fun z => h2 (hF q z))]; exact hS.2.1 q h1 h2, fun q hq => by
        rcases List.mem_append.mp hq with h | h
        · exact hS.2.2 q h
        · exact hF _ (hL q h)⟩
    obtain ⟨t2, a1, b1⟩ := kk ht T'.heap (locs ++ L) hP2 hD2 hS2 T' rfl X'
    subst hst
    exact ⟨t2, st t2 a1, b1⟩
  · rw [h0] at hz hk
    have hk' : ∀ q : Nat, q < H.size → ¬ va_A wc H.size q → T'.heap[q]? = H[q]? := fun q h1 h2 => by rw [e1]; exact hk q h1 h2
    rw [← e1] at hP1
    obtain ⟨hP2, hD2⟩ := setL_world hP hD is hc hadr hk' hP1 hw
    have hS2 : va_S A s.heap T'.heap (locs ++ L) := ⟨Nat.le_trans hS.1 (by rw [e1]; exact hz), fun q h1 h2 => by
        rw [hk' q (Nat.lt_of_lt_of_le h1 hS.1) (fun z => h2 (hF q z))]; exact hS.2.1 q h1 h2, fun q hq => by
        rcases List.mem_append.mp hq with h | h
        · exact hS.2.2 q h
        · exact hF _ (hL q h)⟩
    obtain ⟨t2, a1, b1⟩ := kx ht T'.heap (locs ++ L) q ce hP2 hD2 hS2 (by rw [e1]; exact hq) hqv hcl T' rfl X'
    exact ⟨t2, st.trans a1, b1⟩
theorem xcallV (X : Cx p s m args meth c own cc nL ret0 D g x A) {y : MethodName} {cy : ByteArray} {nLy fry loy mcy n idx tag : Nat} {rety : Option FieldType} {b : Nat} {As rest st0 st1 : List Value} {wc wc1 ws ws1 : va_W} {r : Option Value}
    (hC : CnX D g x l y cy nLy rety fry loy mcy (.ref b :: As) wc wc1 tag r) (hM : MwV y cy nLy rety n) (hlink : Cond.methodLink own idx y ∈ wG) (hR : fry + 1 ≤ R.frames ∧ 8 + (nLy + 11) + loy ≤ R.locals)
    (hP : va_P D vwCl ws H) (hD : va_D A ws) (hS : va_S A s.heap H locs) (is : List Nat) (hnd : va_nd is = true) (hc : is.map (fun i => ws[i]?) = wc.map some) (hadr : wc1.map (fun q => q.1) = wc.map (fun q => q.1)) (q0 : Nat) {ci N : Nat} {T : u_T} {fs : List Value} (hq0 : ws[q0]? = some (b, .inr (ci, fs))) (hci : vwCl[ci]? = some (y.cls, T, N))
    {pc : Nat} {ls : Array Slot} (hn : As.length = n) (hls : ls.size = nL) (hst : st0 = As.reverse ++ .ref b :: rest) (hrm : (rest.map fun v => v.category).sum ≤ 8) (hdg : decode cc pc = .ok (.invokevirtual idx, 3)) (hcs : cells + mcy ≤ R.cells ∧ slots + 6 * mcy ≤ R.slots)
    (hw : setL ws is wc1 = ws1) (hst1 : r.toList ++ rest = st1)
    (kk : tag = 0 → ∀ (H1 : Heap) (locs1 : List Loc), va_P D vwCl ws1 H1 → va_D A ws1 → va_S A s.heap H1 locs1 → W p l e R s m args below meth c H1 locs1 (cells + mcy) (slots + 6 * mcy) Q (F0 m (pc + 3) ls st1))
    (kx : tag ≠ 0 → ∀ (H1 : Heap) (locs1 : List Loc) (q : Addr) (ce : Cell), va_P D vwCl ws1 H1 → va_D A ws1 → va_S A s.heap H1 locs1 → H1[q]? = some ce → ce.vm = .none → s.vm.findClass (exN tag) = some ce.cls → vx_W p l e R s m args below meth c H1 locs1 (cells + mcy) (slots + 6 * mcy) Q (F0 m pc ls rest) q) : W p l e R s m args below meth c H locs cells slots Q (F0 m pc ls st0) := by
  obtain ⟨hx, hb, hml, -, -, hown, hts, hK, hA, hE⟩ := X
  have hPc := hP.sub (ws' := wc) is (by
    have : is.filterMap (fun i => ws[i]?) = (is.map (fun i => ws[i]?)).filterMap id := by rw [List.filterMap_map]; rfl
    rw [this, hc, List.filterMap_map]
    exact List.filterMap_some)
  have hDc := hD.sub (ws' := wc) is hnd hc
  have hEc : Ext x (va_A wc H.size) s H := (hE.kept (fun a h1 h2 => hS.2.1 a h1 h2)).narrow (va_free hD hS hA is hc)
  refine xbehind (a := args) (vx_runV (As := As) (rest := rest) (n := n) (C := y.cls) ⟨hx, hb, hml, hown, hts⟩ (hC H.size) (cwV n hts (mwV_good hM hlink) rfl rfl rfl ⟨rfl, hM.2.2.2.2⟩ hR) ⟨fun a U g9 mk q => ?_, va_recv hK hP hci hq0, fun U hU hW => ⟨rfl, by rw [hU], by rw [hU]; exact hPc, va_K.moved hW.alike hK, hDc.weaken (fun _ _ _ _ => trivial), by rw [hU]; exact hEc.warm hW⟩⟩ rfl hn hls hst (lv_room hrm) hdg hcs) hA hP hD hS is hc hadr hw hst1 kk kx
  obtain ⟨q1, q2, q3, q4, q5, q6⟩ := q
  exact ⟨q1, q2, q3, va_K.moved (u := U) (U := U.calling g9 mk a) (Vm.Alike.refl U.vm) q4, q5, Ext.same (s := U) (U := U.calling g9 mk a) rfl q6⟩
theorem xcallS (X : Cx p s m args meth c own cc nL ret0 D g x A) {y : MethodName} {cy : ByteArray} {nLy fry loy mcy n idx tag : Nat} {rety : Option FieldType} {As rest st0 st1 : List Value} {wc wc1 ws ws1 : va_W} {r : Option Value}
    (hC : CnX D g x l y cy nLy rety fry loy mcy As wc wc1 tag r) (hM : MwS y cy nLy rety n) (hlink : Cond.methodLink own idx y ∈ wG) (hR : fry + 1 ≤ R.frames ∧ 8 + (nLy + 11) + loy ≤ R.locals)
    (hP : va_P D vwCl ws H) (hD : va_D A ws) (hS : va_S A s.heap H locs) (is : List Nat) (hnd : va_nd is = true) (hc : is.map (fun i => ws[i]?) = wc.map some) (hadr : wc1.map (fun q => q.1) = wc.map (fun q => q.1))
    {pc : Nat} {ls : Array Slot} (hn : As.length = n) (hls : ls.size = nL) (hst : st0 = As.reverse ++ rest) (hrm : (rest.map fun v => v.category).sum ≤ 8) (hdg : decode cc pc = .ok (.invokestatic idx, 3)) (hcs : cells + mcy ≤ R.cells ∧ slots + 6 * mcy ≤ R.slots)
    (hw : setL ws is wc1 = ws1) (hst1 : r.toList ++ rest = st1)
    (kk : tag = 0 → ∀ (H1 : Heap) (locs1 : List Loc), va_P D vwCl ws1 H1 → va_D A ws1 → va_S A s.heap H1 locs1 → W p l e R s m args below meth c H1 locs1 (cells + mcy) (slots + 6 * mcy) Q (F0 m (pc + 3) ls st1))
    (kx : tag ≠ 0 → ∀ (H1 : Heap) (locs1 : List Loc) (q : Addr) (ce : Cell), va_P D vwCl ws1 H1 → va_D A ws1 → va_S A s.heap H1 locs1 → H1[q]? = some ce → ce.vm = .none → s.vm.findClass (exN tag) = some ce.cls → vx_W p l e R s m args below meth c H1 locs1 (cells + mcy) (slots + 6 * mcy) Q (F0 m pc ls rest) q) : W p l e R s m args below meth c H locs cells slots Q (F0 m pc ls st0) := by
  obtain ⟨hx, hb, hml, -, -, hown, hts, hK, hA, hE⟩ := X
  have hPc := hP.sub (ws' := wc) is (by
    have : is.filterMap (fun i => ws[i]?) = (is.map (fun i => ws[i]?)).filterMap id := by rw [List.filterMap_map]; rfl
    rw [this, hc, List.filterMap_map]
    exact List.filterMap_some)
  have hDc := hD.sub (ws' := wc) is hnd hc
  have hEc : Ext x (va_A wc H.size) s H := (hE.kept (fun a h1 h2 => hS.2.1 a h1 h2)).narrow (va_free hD hS hA is hc)
  have hCB : CallB R s args own idx y cy nLy rety (mws y cy nLy rety) (rmX fry loy mcy) mcy (6 * mcy) n ∧ (Cond.static y).before args s = true := by
    refine ⟨⟨rfl, rfl, hR.1, hR.2, pay_in hts (mws_good hM.2.2.1), List.mem_cons_self, hts _ hM.2.2.1, hts _ hM.2.1, ⟨hM.2.2.2.1, hM.2.2.2.2.1⟩, fun sig h => ?_, hts _ hlink⟩, hts _ hM.1⟩
    have h2 := hM.2.2.2.2.2
    rw [h] at h2
    exact (Option.some.inj h2).symm
  refine xbehind (a := args) (vx_runS (As := As) (rest := rest) (n := n) ⟨hx, hb, hml, hown, hts⟩ (hC H.size) hCB ⟨fun a U g9 mk q => ?_, fun U hU hW => ⟨rfl, by rw [hU], by rw [hU]; exact hPc, va_K.moved hW.alike hK, hDc.weaken (fun _ _ _ _ => trivial), by rw [hU]; exact hEc.warm hW⟩⟩ rfl hn hls hst (lv_room hrm) hdg hcs) hA hP hD hS is hc hadr hw hst1 kk kx
  obtain ⟨q1, q2, q3, q4, q5, q6⟩ := q
  exact ⟨q1, q2, q3, va_K.moved (u := U) (U := U.calling g9 mk a) (Vm.Alike.refl U.vm) q4, q5, Ext.same (s := U) (U := U.calling g9 mk a) rfl q6⟩
end XCALL
section MALD
variable {p : Program} {l : Launch} {e : Env} {R : Room} {s : State} {m : MethodId} {args : Array Value} {below : List Frame} {meth : Method} {c : Code} {H : Heap} {locs : List Loc} {cells slots : Nat} {Q : State → Prop}
variable {D : va_G} {g : Nat → ClassId} {x : Xd} {A : Nat → Prop} {own : String} {cc : ByteArray} {nL : Nat} {ret0 : Option FieldType} {ws : va_W} {a : Nat} {pc : Nat} {ls : Array Slot} {rest : List Value}
theorem maldq (X : Cx p s m args meth c own cc nL ret0 D g x A) (hP : va_P D vwCl ws H) (q0 : Nat) {e9 : Nat → Nat} (ha : ws[q0]? = some (a, .inl (g 4, 10, .inr (.inr (.inr (.inr (fun k => some (e9 k)))))))) (j : Nat) (hj : j < 10) {i : Int32} (hi : i = nI j) (hdg : decode cc pc = .ok (.aaload, 1))
    (kk : W p l e R s m args below meth c H locs cells slots Q (F0 m (pc + 1) ls (.ref (e9 j) :: rest))) : W p l e R s m args below meth c H locs cells slots Q (F0 m pc ls (.int i :: .ref a :: rest)) := by
  subst hi
  refine va_aldq X.1 X.2.1 X.2.2.2.2.2.2.2.1 hP q0 4 (C := RX3) ha rfl (vp_in_nI hj (by omega)) hdg ?_
  rw [nI_clamp (by omega)]
  exact kk
end MALD
/-! ===== calls whose world lies in two stretches of the caller's ===== -/
theorem P_mem {D : va_G} {ws : va_W} {H : Heap} : va_P D vwCl ws H ↔ ∀ q ∈ ws, va_at D vwCl q H := by
  constructor
  · intro h q hq
    obtain ⟨k, hk⟩ := List.getElem?_of_mem hq
    exact h k q hk
  · intro h k q hk
    exact h q (List.mem_of_getElem? hk)
theorem D_nodup {A : Nat → Prop} : ∀ {ws : va_W}, va_D A ws → (ws.map (fun q => q.1)).Nodup
  | [], _ => List.Pairwise.nil
  | q :: ws, h => by
    refine List.nodup_cons.mpr ⟨fun hm => ?_, D_nodup ⟨fun i j a b ha hb hab => ?_, fun k b hb => h.2 (k + 1) b hb⟩⟩
    · obtain ⟨z, hz, hq⟩ := List.mem_map.mp hm
      obtain ⟨k, hk⟩ := List.getElem?_of_mem hz
      have := h.1 0 (k + 1) q z rfl hk hq.symm
      omega
    · have := h.1 (i + 1) (j + 1) a b ha hb hab
      omega
theorem D_adr {A : Nat → Prop} {ws ws1 : va_W} (hm : ws1.map (fun q => q.1) = ws.map (fun q => q.1)) (h : va_D A ws) : va_D A ws1 := by
  refine ⟨fun i j p q hp hq hpq => ?_, fun k q hq => ?_⟩
  · obtain ⟨p0, h1, h2⟩ := adr_at hm hp
    obtain ⟨q0, h3, h4⟩ := adr_at hm hq
    exact h.1 i j p0 q0 h1 h3 (by rw [h2, h4]; exact hpq)
  · obtain ⟨q0, h1, h2⟩ := adr_at hm hq
    rw [← h2]; exact h.2 k q0 h1
theorem seg_world {A0 : Nat → Prop} {D : va_G} {A X B Y C X1 Y1 : va_W} {H H1 : Heap} (hP : va_P D vwCl (A ++ (X ++ (B ++ (Y ++ C)))) H) (hD : va_D A0 (A ++ (X ++ (B ++ (Y ++ C))))) (hx : X1.map (fun q => q.1) = X.map (fun q => q.1)) (hy : Y1.map (fun q => q.1) = Y.map (fun q => q.1))
    (hk : ∀ q : Nat, q < H.size → ¬ va_A (X ++ Y) H.size q → H1[q]? = H[q]?) (hP1 : va_P D vwCl (X1 ++ Y1) H1) : va_P D vwCl (A ++ (X1 ++ (B ++ (Y1 ++ C)))) H1 ∧ va_D A0 (A ++ (X1 ++ (B ++ (Y1 ++ C)))) := by
  have hnd := D_nodup hD
  refine ⟨P_mem.mpr fun q hq => ?_, D_adr (by simp only [List.map_append, hx, hy]) hD⟩
  have h1 := P_mem.mp hP1
  have h0 := P_mem.mp hP
  simp only [List.map_append, List.nodup_append, List.mem_append, List.mem_map] at hnd
  have out : q ∈ A ++ (X ++ (B ++ (Y ++ C))) → (∀ z, z ∈ X ++ Y → z.1 ≠ q.1) → va_at D vwCl q H1 := by
    intro hm hn
    have hl := (h0 q hm).lt
    refine (h0 q hm).kept (hk q.1 hl ?_)
    rintro (⟨k2, e, h⟩ | h)
    · exact hn (q.1, e) (List.mem_of_getElem? h) rfl
    · omega
  obtain ⟨-, ⟨-, ⟨-, ⟨-, -, n4⟩, n3⟩, n2⟩, n1⟩ := hnd
  simp only [List.mem_append] at hq
  rcases hq with hq | hq | hq | hq | hq
  · refine out (by simp [hq]) (fun z hz => ?_)
    rcases List.mem_append.mp hz with hz | hz
    · exact (n1 q.1 ⟨q, hq, rfl⟩ z.1 (Or.inl ⟨z, hz, rfl⟩)).symm
    · exact (n1 q.1 ⟨q, hq, rfl⟩ z.1 (Or.inr (Or.inr (Or.inl ⟨z, hz, rfl⟩)))).symm
  · exact h1 q (List.mem_append_left _ hq)
  · refine out (by simp [hq]) (fun z hz => ?_)
    rcases List.mem_append.mp hz with hz | hz
    · exact n2 z.1 ⟨z, hz, rfl⟩ q.1 (Or.inl ⟨q, hq, rfl⟩)
    · exact (n3 q.1 ⟨q, hq, rfl⟩ z.1 (Or.inl ⟨z, hz, rfl⟩)).symm
  · exact h1 q (List.mem_append_right _ hq)
  · refine out (by simp [hq]) (fun z hz => ?_)
    rcases List.mem_append.mp hz with hz | hz
    · exact n2 z.1 ⟨z, hz, rfl⟩ q.1 (Or.inr (Or.inr ⟨q, hq, rfl⟩))
    · exact n4 z.1 ⟨z, hz, rfl⟩ q.1 ⟨q, hq, rfl⟩
section SEGC
variable {p : Program} {l : Launch} {e : Env} {R : Room} {s : State} {m : MethodId} {args : Array Value} {below : List Frame} {meth : Method} {c : Code} {H : Heap} {locs : List Loc} {cells slots : Nat} {Q : State → Prop}
variable {D : va_G} {g : Nat → ClassId} {x : Xd} {A0 : Nat → Prop} {own : String} {cc : ByteArray} {nL : Nat} {ret0 : Option FieldType}
theorem mcallT (X0 : Cx p s m args meth c own cc nL ret0 D g x A0) {y : MethodName} {cy : ByteArray} {nLy fry loy n idx : Nat} {rety : Option FieldType} {b : Nat} {As rest st0 st1 : List Value} {wc wc1 ws ws1 : va_W} {r : Option Value}
    (hC : Cn D g x l y cy nLy rety fry loy (.ref b :: As) wc wc1 r) (hM : MwV y cy nLy rety n) (hlink : Cond.methodLink own idx y ∈ wG) (hR : fry + 1 ≤ R.frames ∧ 8 + (nLy + 11) + loy ≤ R.locals)
    (hP : va_P D vwCl ws H) (hD : va_D A0 ws) (hS : va_S A0 s.heap H locs) (A X B Y C X1 Y1 : va_W) (hws : ws = A ++ (X ++ (B ++ (Y ++ C)))) (hwc : wc = X ++ Y) (hwc1 : wc1 = X1 ++ Y1) (hx : X1.map (fun q => q.1) = X.map (fun q => q.1)) (hy : Y1.map (fun q => q.1) = Y.map (fun q => q.1)) (q0 : Nat) {ci N : Nat} {T : u_T} {fs : List Value} (hq0 : ws[q0]? = some (b, .inr (ci, fs))) (hci : vwCl[ci]? = some (y.cls, T, N))
    {pc : Nat} {ls : Array Slot} (hn : As.length = n) (hls : ls.size = nL) (hst : st0 = As.reverse ++ .ref b :: rest) (hrm : (rest.map fun v => v.category).sum ≤ 8) (hdg : decode cc pc = .ok (.invokevirtual idx, 3)) (hcs : cells + 0 ≤ R.cells ∧ slots + 0 ≤ R.slots)
    (hw : A ++ (X1 ++ (B ++ (Y1 ++ C))) = ws1) (hst1 : r.toList ++ rest = st1)
    (kk : ∀ (H1 : Heap) (locs1 : List Loc), va_P D vwCl ws1 H1 → va_D A0 ws1 → va_S A0 s.heap H1 locs1 → W p l e R s m args below meth c H1 locs1 cells slots Q (F0 m (pc + 3) ls st1)) : W p l e R s m args below meth c H locs cells slots Q (F0 m pc ls st0) := by
  obtain ⟨hxx, hb, hml, -, -, hown, hts, hK, hA, hE⟩ := X0
  subst hwc; subst hwc1; subst hw; subst hst1
  have hrc := va_recv hK hP hci hq0
  subst hws
  have hPc : va_P D vwCl (X ++ Y) H := P_mem.mpr fun q hq => P_mem.mp hP q (by
    rcases List.mem_append.mp hq with h | h <;> simp [h])
  have hAc : ∀ q ∈ X ++ Y, A0 q.1 := fun q hq => by
    have hm : q ∈ A ++ (X ++ (B ++ (Y ++ C))) := by rcases List.mem_append.mp hq with h | h <;> simp [h]
    obtain ⟨k, hk⟩ := List.getElem?_of_mem hm
    exact hD.2 k q hk
  have hF : ∀ q, va_A (X ++ Y) H.size q → A0 q := by
    rintro q (⟨k, e9, h⟩ | h)
    · exact hAc (q, e9) (List.mem_of_getElem? h)
    · exact hA q (Nat.le_trans hS.1 h)
  have hDc : va_D (fun _ => True) (X ++ Y) := by
    have hnd := D_nodup hD
    have hnd2 : ((X ++ Y).map (fun q => q.1)).Nodup := by
      simp only [List.map_append, List.nodup_append, List.mem_append, List.mem_map] at hnd ⊢
      obtain ⟨-, ⟨h1, ⟨-, ⟨h2, -, -⟩, -⟩, h4⟩, -⟩ := hnd
      exact ⟨h1, h2, fun a ha b hb => h4 a ha b (Or.inr (Or.inl hb))⟩
    refine ⟨fun i j a b ha hb hab => ?_, fun _ _ _ => trivial⟩
    exact (List.getElem?_inj (by rw [List.length_map]; exact (List.getElem?_eq_some_iff.mp ha).1) hnd2).mp (by rw [List.getElem?_map, List.getElem?_map, ha, hb]; simp [hab])
  have hEc : Ext x (va_A (X ++ Y) H.size) s H := (hE.kept (fun a h1 h2 => hS.2.1 a h1 h2)).narrow hF
  have hr := va_runV (As := As) (rest := rest) (n := n) (C := y.cls) (p := p) (l := l) (e := e) (R := R) (s := s) (m := m) (args := args) (below := below) (meth := meth) (c := c) (H := H) (locs := locs) (cells := cells) (slots := slots) (g := F0 m pc ls st0) ⟨hxx, hb, hml, hown, hts⟩ (hC H.size) (cwV n hts (mwV_good hM hlink) rfl rfl rfl ⟨rfl, hM.2.2.2.2⟩ hR) ⟨fun a U g9 mk q => by
    obtain ⟨q1, q2, q3, q4, q5, q6⟩ := q
    exact ⟨q1, q2, q3, va_K.moved (u := U) (U := U.calling g9 mk a) (Vm.Alike.refl U.vm) q4, q5, Ext.same (s := U) (U := U.calling g9 mk a) rfl q6⟩, hrc, fun U hU hW => ⟨rfl, by rw [hU], by rw [hU]; exact hPc, va_K.moved hW.alike hK, hDc, by rw [hU]; exact hEc.warm hW⟩⟩ rfl hn hls hst (lv_room hrm) hdg hcs
  intro T hT XX
  obtain ⟨v, st₀, t, T', L, h0, X', hL, e1, e2, ⟨hv, hP1, hz, hk⟩, st⟩ := hr T hT XX
  cases hv
  rw [h0] at hz hk
  have hk' : ∀ q : Nat, q < H.size → ¬ va_A (X ++ Y) H.size q → T'.heap[q]? = H[q]? := fun q h1 h2 => by rw [e1]; exact hk q h1 h2
  rw [← e1] at hP1
  obtain ⟨hP2, hD2⟩ := seg_world hP hD hx hy hk' hP1
  have hS2 : va_S A0 s.heap T'.heap (locs ++ L) := ⟨Nat.le_trans hS.1 (by rw [e1]; exact hz), fun q h1 h2 => by
      rw [hk' q (Nat.lt_of_lt_of_le h1 hS.1) (fun z => h2 (hF q z))]; exact hS.2.1 q h1 h2, fun q hq => by
      rcases List.mem_append.mp hq with h | h
      · exact hS.2.2 q h
      · exact hF _ (hL q h)⟩
  obtain ⟨t2, a1, b1⟩ := kk T'.heap (locs ++ L) hP2 hD2 hS2 T' rfl X'
  exact ⟨t2, st t2 a1, b1⟩
theorem mcallN (X0 : Cx p s m args meth c own cc nL ret0 D g x A0) {y : MethodName} {cy : ByteArray} {nLy fry loy n idx : Nat} {rety : Option FieldType} {b : Nat} {As rest st0 st1 : List Value} {wc wc1 ws ws1 : va_W} {r : Option Value}
    (hC : Cn D g x l y cy nLy rety fry loy (.ref b :: As) wc wc1 r) (hM : MwV y cy nLy rety n) (hlink : Cond.methodLink own idx y ∈ wG) (hR : fry + 1 ≤ R.frames ∧ 8 + (nLy + 11) + loy ≤ R.locals)
    (hP : va_P D vwCl ws H) (hD : va_D A0 ws) (hS : va_S A0 s.heap H locs) (a9 b9 c9 d9 : Nat) (hwc : wc = (ws.drop a9).take b9 ++ (ws.drop (a9 + b9 + c9)).take d9) (hx : (wc1.take b9).map (fun q => q.1) = ((ws.drop a9).take b9).map (fun q => q.1)) (hy : (wc1.drop b9).map (fun q => q.1) = ((ws.drop (a9 + b9 + c9)).take d9).map (fun q => q.1)) (q0 : Nat) {ci N : Nat} {T : u_T} {fs : List Value} (hq0 : ws[q0]? = some (b, .inr (ci, fs))) (hci : vwCl[ci]? = some (y.cls, T, N))
    {pc : Nat} {ls : Array Slot} (hn : As.length = n) (hls : ls.size = nL) (hst : st0 = As.reverse ++ .ref b :: rest) (hrm : (rest.map fun v => v.category).sum ≤ 8) (hdg : decode cc pc = .ok (.invokevirtual idx, 3)) (hcs : cells + 0 ≤ R.cells ∧ slots + 0 ≤ R.slots)
    (hw : ws.take a9 ++ (wc1.take b9 ++ ((ws.drop (a9 + b9)).take c9 ++ (wc1.drop b9 ++ ws.drop (a9 + b9 + c9 + d9)))) = ws1) (hst1 : r.toList ++ rest = st1)
    (kk : ∀ (H1 : Heap) (locs1 : List Loc), va_P D vwCl ws1 H1 → va_D A0 ws1 → va_S A0 s.heap H1 locs1 → W p l e R s m args below meth c H1 locs1 cells slots Q (F0 m (pc + 3) ls st1)) : W p l e R s m args below meth c H locs cells slots Q (F0 m pc ls st0) := by
  refine mcallT X0 hC hM hlink hR hP hD hS (ws.take a9) ((ws.drop a9).take b9) ((ws.drop (a9 + b9)).take c9) ((ws.drop (a9 + b9 + c9)).take d9) (ws.drop (a9 + b9 + c9 + d9)) (wc1.take b9) (wc1.drop b9) ?_ hwc (List.take_append_drop b9 wc1).symm hx hy q0 hq0 hci hn hls hst hrm hdg hcs hw hst1 kk
  rw [← List.drop_drop (l := ws) (i := d9) (j := a9 + b9 + c9), List.take_append_drop, ← List.drop_drop (l := ws) (i := c9) (j := a9 + b9), List.take_append_drop, ← List.drop_drop (l := ws) (i := b9) (j := a9), List.take_append_drop, List.take_append_drop]
end SEGC
