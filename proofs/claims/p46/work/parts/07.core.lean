/-! The words that all methods share; contracts of methods that make nothing and return one value out of one world. -/
/-- which private method of an upper class a builder runs: no row of the tables says it; shown at the start -/
def wX : List Cond := [.selects RJ4 yJ5_ensureCapacityInternal_d00df yJ5_ensureCapacityInternal_d00df, .selects RJ4 yJ5_newCapacity_0f7a4 yJ5_newCapacity_0f7a4, .selects RJ4 yJ5_putStringAt_47b60 yJ5_putStringAt_47b60, .selects RJ4 yJ5_inflateIfNeededFor_a7421 yJ5_inflateIfNeededFor_a7421]
def wG : List Cond := (lw_tbl ++ wX).filter goodWord
theorem wG_in {w : Cond} (h : w ∈ lw_tbl) (hg : goodWord w = true) : w ∈ wG := List.mem_filter.mpr ⟨List.mem_append_left _ h, hg⟩
theorem wG_x {w : Cond} (i : Nat) (h : wX[i]? = some w) (hg : goodWord w = true) : w ∈ wG := List.mem_filter.mpr ⟨List.mem_append_right _ (List.mem_of_getElem? h), hg⟩
theorem wG_t {w : Cond} (i : Nat) (h : tables_1[i]? = some w) (hg : goodWord w = true) : w ∈ wG := wG_in (List.mem_append_right _ (List.mem_of_getElem? h)) hg
theorem wG_good {w : Cond} (h : w ∈ wG) : (w.onTables && w.keeps) = true ∨ ∃ ty, w = .arrayClass ty := good_of_word (List.mem_filter.mp h).2
abbrev mws (y : MethodName) (cc : ByteArray) (nL : Nat) (ret : Option FieldType) : List Cond := .code y cc nL ret :: wG
abbrev rmF (fr lo : Nat) : Room := { frames := fr, cells := 0, slots := 0, locals := lo }
abbrev tyA (g : Nat → ClassId) : List (ClassId × FieldType) := [(g 0, .int), (g 1, .long), (g 2, .char), (g 3, .byte), (g 4, .object RX3)]
/-! ===== what else the start gives: nest mates' links, text constants, static fields ===== -/
def nwF : List (String × Nat × String × String × String × String) := [("WeightedNodes$Curve", 62, "WeightedNodes$Nodes", "mode", "I", "WeightedNodes"), ("WeightedNodes", 96, "WeightedNodes$Nodes", "mode", "I", "WeightedNodes"), ("WeightedNodes$Text", 60, "WeightedNodes$Nodes", "mode", "I", "WeightedNodes"), ("WeightedNodes$Curve", 79, "WeightedNodes$Nodes", "degree", "I", "WeightedNodes"), ("WeightedNodes", 100, "WeightedNodes$Nodes", "degree", "I", "WeightedNodes"), ("WeightedNodes$Text", 71, "WeightedNodes$Nodes", "degree", "I", "WeightedNodes"), ("WeightedNodes", 66, "WeightedNodes$Curve", "nodes", "LWeightedNodes$Nodes;", "WeightedNodes")]
def nwM : List (String × Nat × MethodName × String) := [("WeightedNodes", 9, ⟨"WeightedNodes$Text", "<init>", "()V"⟩, "WeightedNodes"), ("WeightedNodes", 18, ⟨"WeightedNodes$Curve", "<init>", "()V"⟩, "WeightedNodes"), ("WeightedNodes$Curve", 11, ⟨"WeightedNodes$Nodes", "<init>", "()V"⟩, "WeightedNodes"), ("WeightedNodes$History", 21, ⟨"WeightedNodes$Nodes", "<init>", "()V"⟩, "WeightedNodes"), ("WeightedNodes", 35, ⟨"WeightedNodes$Output", "<init>", "()V"⟩, "WeightedNodes"), ("WeightedNodes", 42, ⟨"WeightedNodes$Fraction", "<init>", "()V"⟩, "WeightedNodes")]
def lit9 : List (String × Nat × String) := [("WeightedNodes$Text", 49, "point"), ("WeightedNodes$Text", 58, "plain"), ("WeightedNodes$Text", 63, "told"), ("WeightedNodes$Text", 65, "blend"), ("WeightedNodes$Text", 91, "weight"), ("WeightedNodesLaw", 67, ""), ("WeightedNodesLaw", 80, "point "), ("WeightedNodesLaw", 85, " "), ("WeightedNodesLaw", 87, " weight "), ("WeightedNodesLaw", 89, ";"), ("WeightedNodesLaw", 95, "plain;"), ("WeightedNodesLaw", 97, "blend "), ("WeightedNodesLaw", 99, "told;"), ("WeightedNodes", 177, "there is no value"), ("WeightedNodes", 267, "no such point"), ("WeightedNodes", 271, "a parameter is out of its range")]
def byt9 : List (List Int32) := [[112, 111, 105, 110, 116], [112, 108, 97, 105, 110], [116, 111, 108, 100], [98, 108, 101, 110, 100], [119, 101, 105, 103, 104, 116], [], [112, 111, 105, 110, 116, 32], [32], [32, 119, 101, 105, 103, 104, 116, 32], [59], [112, 108, 97, 105, 110, 59], [98, 108, 101, 110, 100, 32], [116, 111, 108, 100, 59], [116, 104, 101, 114, 101, 32, 105, 115, 32, 110, 111, 32, 118, 97, 108, 117, 101], [110, 111, 32, 115, 117, 99, 104, 32, 112, 111, 105, 110, 116], [97, 32, 112, 97, 114, 97, 109, 101, 116, 101, 114, 32, 105, 115, 32, 111, 117, 116, 32, 111, 102, 32, 105, 116, 115, 32, 114, 97, 110, 103, 101]]
/-- addresses of the text constants and of their bytes; the script: its address, its length, its ints -/
abbrev Xd : Type := (Nat → Nat) × (Nat → Nat) × Nat × Nat × (Nat → Int32)
def litO (i : Nat) : String := (lit9.getD i ("", 0, "")).1
def litK (i : Nat) : Nat := (lit9.getD i ("", 0, "")).2.1
def litT (i : Nat) : String := (lit9.getD i ("", 0, "")).2.2
def litB (i : Nat) : List Int32 := byt9.getD i []
def exL : List String := ["java/lang/IndexOutOfBoundsException", "java/lang/IllegalArgumentException", "java/lang/IllegalArgumentException", "java/util/NoSuchElementException"]
def dcL : List MethodName := [⟨"java/lang/RuntimeException", "<init>", "(Ljava/lang/String;)V"⟩, ⟨"java/lang/Exception", "<init>", "(Ljava/lang/String;)V"⟩, ⟨"java/lang/Throwable", "<init>", "(Ljava/lang/String;)V"⟩]
/-- the exception that a tag names: 1 to 4 -/
def exN (k : Nat) : String := exL.getD (k - 1) ""
/-- the script -/
def Scx (x : Xd) (A : Nat → Prop) (U : State) (H : Heap) : Prop := va_X x.2.2.1 x.2.2.2.1 x.2.2.2.2 U H ∧ ¬ A x.2.2.1 ∧ x.2.2.2.1 ≤ 260
/-- the tables of digits -/
def Dgx (A : Nat → Prop) (U : State) (H : Heap) : Prop := (∃ t : Nat, va_Z "java/lang/Integer" "DigitOnes" "[B" (.ref t) A U H ∧ va_T .byte t 100 (fun k => .int (nI (48 + k % 10))) A U H) ∧ (∃ t : Nat, va_Z "java/lang/Integer" "DigitTens" "[B" (.ref t) A U H ∧ va_T .byte t 100 (fun k => .int (nI (48 + k / 10))) A U H)
theorem Scx.moved {x : Xd} {A : Nat → Prop} {u U : State} {H : Heap} (hvm : u.vm.Alike U.vm) (h : Scx x A u H) : Scx x A U H := ⟨h.1.moved hvm, h.2⟩
theorem Scx.kept {x : Xd} {A : Nat → Prop} {U : State} {H H1 : Heap} (h : Scx x A U H) (hq : ∀ a : Nat, a < H.size → ¬ A a → H1[a]? = H[a]?) : Scx x A U H1 := by
  obtain ⟨c, h1, -⟩ := id h.1
  exact ⟨h.1.kept (hq _ (Array.getElem?_eq_some_iff.mp h1).1 h.2.1), h.2⟩
theorem Scx.narrow {x : Xd} {A B : Nat → Prop} {U : State} {H : Heap} (h : Scx x A U H) (hAB : ∀ q, B q → A q) : Scx x B U H := ⟨h.1, fun z => h.2.1 (hAB _ z), h.2.2⟩
theorem Dgx.moved {A : Nat → Prop} {u U : State} {H : Heap} (hvm : u.vm.Alike U.vm) (h : Dgx A u H) : Dgx A U H := by
  obtain ⟨⟨t, h1, h2⟩, ⟨t', h3, h4⟩⟩ := h
  exact ⟨⟨t, va_Z.moved hvm h1, va_T.moved hvm h2⟩, ⟨t', va_Z.moved hvm h3, va_T.moved hvm h4⟩⟩
theorem Dgx.kept {A : Nat → Prop} {U : State} {H H1 : Heap} (h : Dgx A U H) (hq : ∀ a : Nat, a < H.size → ¬ A a → H1[a]? = H[a]?) : Dgx A U H1 := by
  obtain ⟨⟨t, h1, h2⟩, ⟨t', h3, h4⟩⟩ := h
  exact ⟨⟨t, h1.kept hq, h2.kept hq⟩, ⟨t', h3.kept hq, h4.kept hq⟩⟩
theorem Dgx.narrow {A B : Nat → Prop} {U : State} {H : Heap} (h : Dgx A U H) (hAB : ∀ q, B q → A q) : Dgx B U H := by
  obtain ⟨⟨t, h1, h2⟩, ⟨t', h3, h4⟩⟩ := h
  exact ⟨⟨t, h1.narrow hAB, h2.narrow hAB⟩, ⟨t', h3.narrow hAB, h4.narrow hAB⟩⟩
def Ext (x : Xd) (A : Nat → Prop) (U : State) (H : Heap) : Prop :=
  (∀ w ∈ nwF, va_Nw (.fieldLinkNest w.1 w.2.1 w.2.2.1 w.2.2.2.1 w.2.2.2.2.1 w.2.2.2.2.2) U) ∧ (∀ w ∈ nwM, va_Nw (.methodLinkNest w.1 w.2.1 w.2.2.1 w.2.2.2) U) ∧ (∀ i : Nat, i < 16 → vk_R (litO i) (litK i) (litT i) (x.1 i) U) ∧
  (∀ i : Nat, i < 13 → vk_S 1 [(litB i).length] [litB i] (fun _ => x.1 i) (fun _ => x.2.1 i) A U H) ∧ va_Z "java/lang/String" "COMPACT_STRINGS" "Z" (.int 1) A U H ∧ va_Zq "jdk/internal/util/Preconditions" "SIOOBE_FORMATTER" "Ljava/util/function/BiFunction;" A U H ∧
  vx_Zq Bundle.tN "UNASSIGNED_STACK" Bundle.steD A U H ∧ vx_Zq Bundle.tN "SUPPRESSED_SENTINEL" Bundle.listD A U H ∧ (∀ a ∈ exL, va_Nw (.castable a a) U) ∧ (∀ a ∈ exL, ∀ b ∈ exL, a ≠ b → va_Nc a b U) ∧ (∀ d ∈ dcL, va_Nw (.declares d) U) ∧ va_AO RX3 U ∧ (va_Nw (.castable "[B" "java/lang/Cloneable") U ∧ Scx x A U H ∧ Dgx A U H)
theorem Ext.warm {x : Xd} {A : Nat → Prop} {s U : State} {H : Heap} (hW : s.WarmedH U.vm) (h : Ext x A s H) : Ext x A U H :=
  ⟨fun w hw => va_Nw.warmF hW (h.1 w hw), fun w hw => va_Nw.warmM hW (h.2.1 w hw), fun i hi => vk_R.warm hW (h.2.2.1 i hi), fun i hi => vk_S.moved hW.alike (h.2.2.2.1 i hi), va_Z.moved hW.alike h.2.2.2.2.1, va_Zq.moved hW.alike h.2.2.2.2.2.1, vx_Zq.moved hW.alike h.2.2.2.2.2.2.1, vx_Zq.moved hW.alike h.2.2.2.2.2.2.2.1, fun a ha => va_Nw.warmC hW (h.2.2.2.2.2.2.2.2.1 a ha), fun a ha b hb hn => va_Nc.moved hW.alike (h.2.2.2.2.2.2.2.2.2.1 a ha b hb hn), fun d hd => va_Nw.warmD hW (h.2.2.2.2.2.2.2.2.2.2.1 d hd), va_AO.moved hW.alike h.2.2.2.2.2.2.2.2.2.2.2.1, va_Nw.warmC hW h.2.2.2.2.2.2.2.2.2.2.2.2.1, h.2.2.2.2.2.2.2.2.2.2.2.2.2.1.moved hW.alike, h.2.2.2.2.2.2.2.2.2.2.2.2.2.2.moved hW.alike⟩
theorem Ext.same {x : Xd} {A : Nat → Prop} {s U : State} {H : Heap} (hv : U.vm = s.vm) (h : Ext x A s H) : Ext x A U H := by
  have ha : s.vm.Alike U.vm := by rw [hv]; exact Vm.Alike.refl _
  exact ⟨fun w hw => va_Nw.same rfl hv.symm (h.1 w hw), fun w hw => va_Nw.same rfl hv.symm (h.2.1 w hw), fun i hi => vk_R.same hv (h.2.2.1 i hi), fun i hi => vk_S.moved ha (h.2.2.2.1 i hi), va_Z.moved ha h.2.2.2.2.1, va_Zq.moved ha h.2.2.2.2.2.1, vx_Zq.moved ha h.2.2.2.2.2.2.1, vx_Zq.moved ha h.2.2.2.2.2.2.2.1, fun a hm => va_Nw.same rfl hv.symm (h.2.2.2.2.2.2.2.2.1 a hm), fun a hm b hb hn => va_Nc.moved ha (h.2.2.2.2.2.2.2.2.2.1 a hm b hb hn), fun d hd => va_Nw.same rfl hv.symm (h.2.2.2.2.2.2.2.2.2.2.1 d hd), va_AO.moved ha h.2.2.2.2.2.2.2.2.2.2.2.1, va_Nw.same rfl hv.symm h.2.2.2.2.2.2.2.2.2.2.2.2.1, h.2.2.2.2.2.2.2.2.2.2.2.2.2.1.moved ha, h.2.2.2.2.2.2.2.2.2.2.2.2.2.2.moved ha⟩
theorem Ext.kept {x : Xd} {A : Nat → Prop} {U : State} {H H1 : Heap} (h : Ext x A U H) (hq : ∀ a : Nat, a < H.size → ¬ A a → H1[a]? = H[a]?) : Ext x A U H1 :=
  ⟨h.1, h.2.1, h.2.2.1, fun i hi => (h.2.2.2.1 i hi).kept hq, h.2.2.2.2.1.kept hq, h.2.2.2.2.2.1.kept hq, h.2.2.2.2.2.2.1.kept hq, h.2.2.2.2.2.2.2.1.kept hq, h.2.2.2.2.2.2.2.2.1, h.2.2.2.2.2.2.2.2.2.1, h.2.2.2.2.2.2.2.2.2.2.1, h.2.2.2.2.2.2.2.2.2.2.2.1, h.2.2.2.2.2.2.2.2.2.2.2.2.1, h.2.2.2.2.2.2.2.2.2.2.2.2.2.1.kept hq, h.2.2.2.2.2.2.2.2.2.2.2.2.2.2.kept hq⟩
theorem Ext.narrow {x : Xd} {A B : Nat → Prop} {U : State} {H : Heap} (h : Ext x A U H) (hAB : ∀ q, B q → A q) : Ext x B U H :=
  ⟨h.1, h.2.1, h.2.2.1, fun i hi => (h.2.2.2.1 i hi).narrow hAB, h.2.2.2.2.1.narrow hAB, h.2.2.2.2.2.1.narrow hAB, h.2.2.2.2.2.2.1.narrow hAB, h.2.2.2.2.2.2.2.1.narrow hAB, h.2.2.2.2.2.2.2.2.1, h.2.2.2.2.2.2.2.2.2.1, h.2.2.2.2.2.2.2.2.2.2.1, h.2.2.2.2.2.2.2.2.2.2.2.1, h.2.2.2.2.2.2.2.2.2.2.2.2.1, h.2.2.2.2.2.2.2.2.2.2.2.2.2.1.narrow hAB, h.2.2.2.2.2.2.2.2.2.2.2.2.2.2.narrow hAB⟩
def Cx (p : Program) (s : State) (m : MethodId) (args : Array Value) (meth : Method) (c : Code) (own : String) (cc : ByteArray) (nL : Nat) (ret : Option FieldType) (D : va_G) (g : Nat → ClassId) (x : Xd) (A : Nat → Prop) : Prop :=
  p.tables.exec = Jvm.exec ∧ c.code = cc ∧ c.maxLocals = nL ∧ meth.sig.returnType = ret ∧ meth.locks = false ∧ s.vm.findClass own = some m.cls ∧ (∀ w ∈ wG, w.before args s = true) ∧ va_K D vwCl (tyA g) s ∧ (∀ q : Nat, s.heap.size ≤ q → A q) ∧ Ext x A s s.heap
/-- what a method says: called with av in the world w0 it returns r and leaves the world w1 -/
def Cn (D : va_G) (g : Nat → ClassId) (x : Xd) (l : Launch) (y : MethodName) (cc : ByteArray) (nL : Nat) (ret : Option FieldType) (fr lo : Nat) (av : List Value) (w0 w1 : va_W) (r : Option Value) : Prop :=
  ∀ sz : Nat, Met l y (mws y cc nL ret) (rmF fr lo) (va_Pc av (fun U => U.heap.size = sz ∧ va_P D vwCl w0 U.heap ∧ va_K D vwCl (tyA g) U ∧ va_D (fun _ => True) w0 ∧ Ext x (va_A w0 sz) U U.heap))
    (fun _ st oc t => oc = .returned r ∧ va_P D vwCl w1 t.heap ∧ va_F (va_A w0 sz) st t) 0 0 (va_A w0 sz)
/-- how a body ends: with the world w1 and its answer on the stack -/
def Fin (p : Program) (l : Launch) (e : Env) (R : Room) (s : State) (m : MethodId) (args : Array Value) (below : List Frame) (meth : Method) (c : Code) (cc : ByteArray) (D : va_G) (A : Nat → Prop) (Q : State → Prop) (w1 : va_W) (i : Instr) (st : List Value) : Prop :=
  ∀ (H : Heap) (locs : List Loc) (pc : Nat) (ls : Array Slot), va_P D vwCl w1 H → va_S A s.heap H locs → decode cc pc = .ok (i, 1) → W p l e R s m args below meth c H locs 0 0 Q (F0 m pc ls st)
def FinZ (p : Program) (l : Launch) (e : Env) (R : Room) (s : State) (m : MethodId) (args : Array Value) (below : List Frame) (meth : Method) (c : Code) (cc : ByteArray) (D : va_G) (A : Nat → Prop) (Q : State → Prop) (w1 : va_W) (ty : FieldType) (v : Int32) : Prop :=
  ∀ (H : Heap) (locs : List Loc) (pc : Nat) (ls : Array Slot), narrow ty (.int v) = .int v → va_P D vwCl w1 H → va_S A s.heap H locs → decode cc pc = .ok (.ireturn, 1) → W p l e R s m args below meth c H locs 0 0 Q (F0 m pc ls [.int v])
theorem met_of {l : Launch} {y : MethodName} {ws ws' : List Cond} {rm : Room} {Pc : Array Value → State → Prop} {Qc : Array Value → State → Outcome → State → Prop} {mc ms : Nat} {free : Addr → Prop} {cc : ByteArray} {maxL : Nat} {ret : Option FieldType}
    (hy : plainFor y = true) (hw : ws = Cond.code y cc maxL ret :: ws')
    (body : ∀ p e s m args below meth c s₁, BodyLoose p l y (headSpec ws rm) cc maxL ret e s m args below meth c s₁ → c.maxLocals = maxL → Pc args s →
      W p l e (headSpec ws rm).room s m args below meth c s.heap [] 0 0 (MQ below Qc args s mc ms free) (entryFrame m args maxL)) : Met l y ws rm Pc Qc mc ms free := by
  refine MetFree.of_bodySF (code := cc) (maxLocals := maxL) (ret := ret) hy (fun args s m h hn => ?_) (fun p e s m args below meth c s₁ B hml hP _ => ?_)
  · obtain ⟨meth, c, h1, h2, h3, h4, h5, h6, -, -⟩ := Cond.code_spec hn (atoms_spec (ws := ws) h _ (by rw [hw]; exact List.mem_cons_self))
    exact ⟨meth, c, h1, h2, h3, h4, h5, h6⟩
  · obtain ⟨t, a1, o, b1, b2, b3⟩ := body p e s m args below meth c s₁ B hml hP s₁ (by rw [B.state]; rfl) (Stand.of_body B)
    exact ⟨t, o, a1, b1, b2, ⟨b3.1, b3.2⟩⟩
section CNM
variable {D : va_G} {g : Nat → ClassId} {x : Xd} {l : Launch} {y : MethodName} {cc : ByteArray} {nL : Nat} {fr lo : Nat} {av : List Value} {w0 w1 : va_W}
theorem Cn.mk1 {ret : Option FieldType} {r : Option Value} (hy : plainFor y = true) (hn : (lg_sl av).length ≤ nL)
    (body : ∀ (p : Program) (e : Env) (s : State) (m : MethodId) (args : Array Value) (below : List Frame) (meth : Method) (c : Code) (ls : Array Slot), Cx p s m args meth c y.cls cc nL ret D g x (va_A w0 s.heap.size) → va_D (va_A w0 s.heap.size) w0 → va_P D vwCl w0 s.heap → va_S (va_A w0 s.heap.size) s.heap s.heap [] → lv_has ls nL (lv_args 0 av) →
      W p l e (rmF fr lo) s m args below meth c s.heap [] 0 0 (MQ below (fun _ st oc t => oc = .returned r ∧ va_P D vwCl w1 t.heap ∧ va_F (va_A w0 s.heap.size) st t) args s 0 0 (va_A w0 s.heap.size)) (F0 m 0 ls [])) :
    Cn D g x l y cc nL ret fr lo av w0 w1 r := by
  intro sz
  refine met_of (cc := cc) (maxL := nL) (ret := ret) hy rfl ?_
  intro p e s m args below meth c s₁ B hml hv
  obtain ⟨rfl, hsz, hP, hK, hD0, hE0⟩ := hv
  subst hsz
  have hts : ∀ w ∈ wG, w.before av.toArray s = true := fun w h => atoms_spec (ws := mws y cc nL ret) B.pre w (List.mem_cons_of_mem _ h)
  have hown : s.vm.findClass y.cls = some m.cls := findClass_of_methodNamed B.named
  have hl := lv_entry av (n := nL) hn
  rw [lg_entry_eq]
  exact body p e s m av.toArray below meth c _ ⟨B.exec, B.bytes, hml, B.returns, B.notSynchronized, hown, hts, hK, fun q h => Or.inr h, hE0⟩ hD0.self hP va_S.rf hl
theorem CnI {ty : FieldType} {v : Int32} (hy : plainFor y = true) (hn : (lg_sl av).length ≤ nL)
    (body : ∀ (p : Program) (e : Env) (s : State) (m : MethodId) (args : Array Value) (below : List Frame) (meth : Method) (c : Code) (A : Nat → Prop) (Q : State → Prop) (ls : Array Slot), Cx p s m args meth c y.cls cc nL (some ty) D g x A → va_D A w0 → va_P D vwCl w0 s.heap → va_S A s.heap s.heap [] → FinZ p l e (rmF fr lo) s m args below meth c cc D A Q w1 ty v → lv_has ls nL (lv_args 0 av) → W p l e (rmF fr lo) s m args below meth c s.heap [] 0 0 Q (F0 m 0 ls [])) :
    Cn D g x l y cc nL (some ty) fr lo av w0 w1 (some (.int v)) :=
  Cn.mk1 hy hn (fun p e s m args below meth c ls X hD hP hS hl => body p e s m args below meth c _ _ ls X hD hP hS (fun H locs pc ls hnar hP hS hdg => W.zret X.1 X.2.1 X.2.2.2.1 hnar (fun t ht hW => ⟨rfl, by rw [ht]; exact hP, hS.F ht⟩) hS.2.2 hdg X.2.2.2.2.1) hl)
theorem CnL {v : Int64} (hy : plainFor y = true) (hn : (lg_sl av).length ≤ nL)
    (body : ∀ (p : Program) (e : Env) (s : State) (m : MethodId) (args : Array Value) (below : List Frame) (meth : Method) (c : Code) (A : Nat → Prop) (Q : State → Prop) (ls : Array Slot), Cx p s m args meth c y.cls cc nL (some .long) D g x A → va_D A w0 → va_P D vwCl w0 s.heap → va_S A s.heap s.heap [] → Fin p l e (rmF fr lo) s m args below meth c cc D A Q w1 .lreturn [.long v] → lv_has ls nL (lv_args 0 av) → W p l e (rmF fr lo) s m args below meth c s.heap [] 0 0 Q (F0 m 0 ls [])) :
    Cn D g x l y cc nL (some .long) fr lo av w0 w1 (some (.long v)) :=
  Cn.mk1 hy hn (fun p e s m args below meth c ls X hD hP hS hl => body p e s m args below meth c _ _ ls X hD hP hS (fun H locs pc ls hP hS hdg => W.lret X.1 X.2.1 X.2.2.2.1 (fun t ht hW => ⟨rfl, by rw [ht]; exact hP, hS.F ht⟩) hS.2.2 hdg X.2.2.2.2.1) hl)
theorem CnD {v : UInt64} (hy : plainFor y = true) (hn : (lg_sl av).length ≤ nL)
    (body : ∀ (p : Program) (e : Env) (s : State) (m : MethodId) (args : Array Value) (below : List Frame) (meth : Method) (c : Code) (A : Nat → Prop) (Q : State → Prop) (ls : Array Slot), Cx p s m args meth c y.cls cc nL (some .double) D g x A → va_D A w0 → va_P D vwCl w0 s.heap → va_S A s.heap s.heap [] → Fin p l e (rmF fr lo) s m args below meth c cc D A Q w1 .dreturn [.double v] → lv_has ls nL (lv_args 0 av) → W p l e (rmF fr lo) s m args below meth c s.heap [] 0 0 Q (F0 m 0 ls [])) :
    Cn D g x l y cc nL (some .double) fr lo av w0 w1 (some (.double v)) :=
  Cn.mk1 hy hn (fun p e s m args below meth c ls X hD hP hS hl => body p e s m args below meth c _ _ ls X hD hP hS (fun H locs pc ls hP hS hdg => W.dret X.1 X.2.1 X.2.2.2.1 (fun t ht hW => ⟨rfl, by rw [ht]; exact hP, hS.F ht⟩) hS.2.2 hdg X.2.2.2.2.1) hl)
theorem CnV (hy : plainFor y = true) (hn : (lg_sl av).length ≤ nL)
    (body : ∀ (p : Program) (e : Env) (s : State) (m : MethodId) (args : Array Value) (below : List Frame) (meth : Method) (c : Code) (A : Nat → Prop) (Q : State → Prop) (ls : Array Slot), Cx p s m args meth c y.cls cc nL none D g x A → va_D A w0 → va_P D vwCl w0 s.heap → va_S A s.heap s.heap [] → Fin p l e (rmF fr lo) s m args below meth c cc D A Q w1 .return_ [] → lv_has ls nL (lv_args 0 av) → W p l e (rmF fr lo) s m args below meth c s.heap [] 0 0 Q (F0 m 0 ls [])) :
    Cn D g x l y cc nL none fr lo av w0 w1 none :=
  Cn.mk1 hy hn (fun p e s m args below meth c ls X hD hP hS hl => body p e s m args below meth c _ _ ls X hD hP hS (fun H locs pc ls hP hS hdg => W.vret X.1 X.2.1 X.2.2.2.1 (fun t ht hW => ⟨rfl, by rw [ht]; exact hP, hS.F ht⟩) hS.2.2 hdg X.2.2.2.2.1) hl)
end CNM
/-! ===== worlds with some cells put anew ===== -/
def setL : va_W → List Nat → va_W → va_W
  | ws, i :: is, c :: cs => setL (ws.set i c) is cs
  | ws, _, _ => ws
theorem setL_get : ∀ (is : List Nat) (cs ws : va_W), is.length = cs.length → ∀ (k : Nat) (q : Nat × va_E), (setL ws is cs)[k]? = some q → (∃ j : Nat, is[j]? = some k ∧ cs[j]? = some q) ∨ (k ∉ is ∧ ws[k]? = some q) := by
  intro is
  induction is with
  | nil => intro cs ws h k q hq; exact Or.inr ⟨List.not_mem_nil, by cases cs <;> exact hq⟩
  | cons i is ih =>
    intro cs ws h k q hq
    cases cs with
    | nil => simp at h
    | cons c cs =>
      rcases ih cs (ws.set i c) (by simpa using h) k q hq with ⟨j, h1, h2⟩ | ⟨h1, h2⟩
      · exact Or.inl ⟨j + 1, h1, h2⟩
      · by_cases hk : i = k
        · subst hk
          rw [List.getElem?_set] at h2
          simp only [if_true] at h2
          split at h2
          · exact Or.inl ⟨0, rfl, h2⟩
          · cases h2
        · rw [List.getElem?_set, if_neg hk] at h2
          exact Or.inr ⟨fun h3 => (List.mem_cons.mp h3).elim (fun e => hk e.symm) h1, h2⟩
theorem adr_at {w1 w0 : va_W} (h : w1.map (fun q => q.1) = w0.map (fun q => q.1)) {j : Nat} {q : Nat × va_E} (hq : w1[j]? = some q) : ∃ q0, w0[j]? = some q0 ∧ q0.1 = q.1 := by
  have h2 : (w0.map (fun q => q.1))[j]? = some q.1 := by rw [← h, List.getElem?_map, hq]; rfl
  rw [List.getElem?_map] at h2
  cases h3 : w0[j]? with
  | none => rw [h3] at h2; cases h2
  | some q0 => rw [h3] at h2; exact ⟨q0, rfl, Option.some.inj h2⟩
theorem pick_at {ws wc : va_W} {is : List Nat} (hc : is.map (fun i => ws[i]?) = wc.map some) {j : Nat} {q : Nat × va_E} (hq : wc[j]? = some q) : ∃ i, is[j]? = some i ∧ ws[i]? = some q := by
  have h1 : (is.map (fun i => ws[i]?))[j]? = some (some q) := by rw [hc, List.getElem?_map, hq]; rfl
  rw [List.getElem?_map] at h1
  cases hi : is[j]? with
  | none => rw [hi] at h1; cases h1
  | some i => rw [hi] at h1; exact ⟨i, rfl, Option.some.inj h1⟩
theorem pick_len {ws wc : va_W} {is : List Nat} (hc : is.map (fun i => ws[i]?) = wc.map some) : is.length = wc.length := by
  have := congrArg List.length hc
  simpa using this
theorem setL_world {A : Nat → Prop} {D : va_G} {ws wc wc1 ws1 : va_W} {H H1 : Heap} (hP : va_P D vwCl ws H) (hD : va_D A ws) (is : List Nat) (hc : is.map (fun i => ws[i]?) = wc.map some) (hadr : wc1.map (fun q => q.1) = wc.map (fun q => q.1))
    (hk : ∀ q : Nat, q < H.size → ¬ va_A wc H.size q → H1[q]? = H[q]?) (hP1 : va_P D vwCl wc1 H1) (hw : setL ws is wc1 = ws1) : va_P D vwCl ws1 H1 ∧ va_D A ws1 := by
  have hlen : is.length = wc1.length := by rw [pick_len hc]; have := congrArg List.length hadr; simpa using this.symm
  subst hw
  have key := fun (k : Nat) (q : Nat × va_E) => setL_get is wc1 ws hlen k q
  have old : ∀ (k : Nat) (q : Nat × va_E), (setL ws is wc1)[k]? = some q → ∃ q0, ws[k]? = some q0 ∧ q0.1 = q.1 := by
    intro k q hq
    rcases key k q hq with ⟨j, h1, h2⟩ | ⟨-, h2⟩
    · obtain ⟨q0, h3, h4⟩ := adr_at hadr h2
      obtain ⟨i, h5, h6⟩ := pick_at hc h3
      cases h1.symm.trans h5
      exact ⟨q0, h6, h4⟩
    · exact ⟨q, h2, rfl⟩
  refine ⟨fun k q hq => ?_, fun i j p q hp hq hpq => ?_, fun k q hq => ?_⟩
  · rcases key k q hq with ⟨j, h1, h2⟩ | ⟨h1, h2⟩
    · exact hP1 j q h2
    · have hl := (hP k q h2).lt
      refine (hP k q h2).kept (hk q.1 hl ?_)
      rintro (⟨k2, e, h⟩ | h)
      · obtain ⟨i, h5, h6⟩ := pick_at hc h
        have := hD.1 k i q (q.1, e) h2 h6 rfl
        subst this
        exact h1 (List.mem_of_getElem? h5)
      · omega
  · obtain ⟨p0, h1, h2⟩ := old i p hp
    obtain ⟨q0, h3, h4⟩ := old j q hq
    exact hD.1 i j p0 q0 h1 h3 (by rw [h2, h4]; exact hpq)
  · obtain ⟨q0, h1, h2⟩ := old k q hq
    rw [← h2]; exact hD.2 k q0 h1
/-! ===== calls ===== -/
/-- what the tables say of a method that is called -/
def MwV (y : MethodName) (cy : ByteArray) (nLy : Nat) (rety : Option FieldType) (n : Nat) : Prop := Cond.instanceMethod y ∈ wG ∧ Cond.selects y.cls y y ∈ wG ∧ Cond.initialized y.cls ∈ wG ∧ Cond.code y cy nLy rety ∈ wG ∧ (y.cls ≠ "java/lang/invoke/MethodHandle" ∧ y.cls ≠ "java/lang/invoke/VarHandle" ∧ (parseMethodDescriptor y.desc).map (fun d => d.parameters.length) = some n)
def MwS (y : MethodName) (cy : ByteArray) (nLy : Nat) (rety : Option FieldType) (n : Nat) : Prop := Cond.static y ∈ wG ∧ Cond.initialized y.cls ∈ wG ∧ Cond.code y cy nLy rety ∈ wG ∧ (y.cls ≠ "java/lang/invoke/MethodHandle" ∧ y.cls ≠ "java/lang/invoke/VarHandle" ∧ (parseMethodDescriptor y.desc).map (fun d => d.parameters.length) = some n)
theorem mws_good {y : MethodName} {cy : ByteArray} {nLy : Nat} {rety : Option FieldType} (h : Cond.code y cy nLy rety ∈ wG) : GoodIn wG (mws y cy nLy rety) := fun w hw => (List.mem_cons.mp hw).elim (fun e => by rw [e]; exact ⟨h, wG_good h⟩) (fun h => ⟨h, wG_good h⟩)
theorem mwV_good {own : String} {idx : Nat} {y : MethodName} {cy : ByteArray} {nLy n : Nat} {rety : Option FieldType} (h : MwV y cy nLy rety n) (hl : Cond.methodLink own idx y ∈ wG) : GoodIn wG (wsV own idx y.cls y (mws y cy nLy rety)) := by
  intro w hw
  unfold wsV at hw
  rcases List.mem_append.mp hw with h1 | h1
  · have : w ∈ wG := by
      simp only [List.mem_cons, List.not_mem_nil, or_false] at h1
      rcases h1 with e | e | e | e <;> rw [e]
      · exact hl
      · exact h.1
      · exact h.2.1
      · exact h.2.2.1
    exact ⟨this, wG_good this⟩
  · exact mws_good h.2.2.2.1 w h1
theorem mwS_good {own : String} {idx : Nat} {y : MethodName} {cy : ByteArray} {nLy n : Nat} {rety : Option FieldType} (h : MwS y cy nLy rety n) (hl : Cond.methodLink own idx y ∈ wG) : GoodIn wG (va_wsS own idx y (mws y cy nLy rety)) := by
  intro w hw
  unfold va_wsS at hw
  rcases List.mem_append.mp hw with h1 | h1
  · have : w ∈ wG := by
      simp only [List.mem_cons, List.not_mem_nil, or_false] at h1
      rcases h1 with e | e | e <;> rw [e]
      · exact hl
      · exact h.1
      · exact h.2.1
    exact ⟨this, wG_good this⟩
  · exact mws_good h.2.2.1 w h1
section CALL
variable {p : Program} {l : Launch} {e : Env} {R : Room} {s : State} {m : MethodId} {args : Array Value} {below : List Frame} {meth : Method} {c : Code} {H : Heap} {locs : List Loc} {cells slots : Nat} {Q : State → Prop}
variable {D : va_G} {g : Nat → ClassId} {x : Xd} {A : Nat → Prop} {own : String} {cc : ByteArray} {nL : Nat} {ret0 : Option FieldType}
/-- behind a call that ran as its contract says -/
theorem mbehind {a : Array Value} {rest st1 : List Value} {pc : Nat} {ls : Array Slot} {st0 : List Value} {ws wc wc1 ws1 : va_W} {r : Option Value}
    (hr : va_Run p l e R s m args below meth c H locs cells slots 0 0 (F0 m pc ls st0) rest (fun st oc t => oc = .returned r ∧ va_P D vwCl wc1 t.heap ∧ va_F (va_A wc H.size) st t) (va_A wc H.size))
    (hA : ∀ q : Nat, s.heap.size ≤ q → A q) (hP : va_P D vwCl ws H) (hD : va_D A ws) (hS : va_S A s.heap H locs) (is : List Nat) (hc : is.map (fun i => ws[i]?) = wc.map some) (hadr : wc1.map (fun q => q.1) = wc.map (fun q => q.1)) (hw : setL ws is wc1 = ws1) (hst : r.toList ++ rest = st1)
    (kk : ∀ (H1 : Heap) (locs1 : List Loc), va_P D vwCl ws1 H1 → va_D A ws1 → va_S A s.heap H1 locs1 → W p l e R s m args below meth c H1 locs1 cells slots Q (F0 m (pc + 3) ls st1)) : W p l e R s m args below meth c H locs cells slots Q (F0 m pc ls st0) := by
  have hF := va_free hD hS hA is hc
  intro T hT X
  obtain ⟨v, st₀, t, T', L, h0, X', hL, e1, e2, ⟨hv, hP1, hz, hk⟩, st⟩ := hr T hT X
  cases hv
  rw [h0] at hz hk
  have hk' : ∀ q : Nat, q < H.size → ¬ va_A wc H.size q → T'.heap[q]? = H[q]? := fun q h1 h2 => by rw [e1]; exact hk q h1 h2
  rw [← e1] at hP1
  obtain ⟨hP2, hD2⟩ := setL_world hP hD is hc hadr hk' hP1 hw
  have hS2 : va_S A s.heap T'.heap (locs ++ L) := ⟨Nat.le_trans hS.1 (by rw [e1]; exact hz), fun q h1 h2 => by
      rw [hk' q (Nat.lt_of_lt_of_le h1 hS.1) (fun z => h2 (hF q z))]; exact hS.2.1 q h1 h2, fun q hq => by
      rcases List.mem_append.mp hq with h | h
      · exact hS.2.2 q h
      · exact hF _ (hL q h)⟩
  obtain ⟨t2, a1, b1⟩ := kk T'.heap (locs ++ L) hP2 hD2 hS2 T' rfl X'
  subst hst
  exact ⟨t2, st t2 a1, b1⟩
theorem mcallV (X : Cx p s m args meth c own cc nL ret0 D g x A) {y : MethodName} {cy : ByteArray} {nLy fry loy n idx : Nat} {rety : Option FieldType} {b : Nat} {As rest st0 st1 : List Value} {wc wc1 ws ws1 : va_W} {r : Option Value}
    (hC : Cn D g x l y cy nLy rety fry loy (.ref b :: As) wc wc1 r) (hM : MwV y cy nLy rety n) (hlink : Cond.methodLink own idx y ∈ wG) (hR : fry + 1 ≤ R.frames ∧ 8 + (nLy + 11) + loy ≤ R.locals)
    (hP : va_P D vwCl ws H) (hD : va_D A ws) (hS : va_S A s.heap H locs) (is : List Nat) (hnd : va_nd is = true) (hc : is.map (fun i => ws[i]?) = wc.map some) (hadr : wc1.map (fun q => q.1) = wc.map (fun q => q.1)) (q0 : Nat) {ci N : Nat} {T : u_T} {fs : List Value} (hq0 : ws[q0]? = some (b, .inr (ci, fs))) (hci : vwCl[ci]? = some (y.cls, T, N))
    {pc : Nat} {ls : Array Slot} (hn : As.length = n) (hls : ls.size = nL) (hst : st0 = As.reverse ++ .ref b :: rest) (hrm : (rest.map fun v => v.category).sum ≤ 8) (hdg : decode cc pc = .ok (.invokevirtual idx, 3)) (hcs : cells + 0 ≤ R.cells ∧ slots + 0 ≤ R.slots)
    (hw : setL ws is wc1 = ws1) (hst1 : r.toList ++ rest = st1)
    (kk : ∀ (H1 : Heap) (locs1 : List Loc), va_P D vwCl ws1 H1 → va_D A ws1 → va_S A s.heap H1 locs1 → W p l e R s m args below meth c H1 locs1 cells slots Q (F0 m (pc + 3) ls st1)) : W p l e R s m args below meth c H locs cells slots Q (F0 m pc ls st0) := by
  obtain ⟨hx, hb, hml, -, -, hown, hts, hK, hA, hE⟩ := X
  have hPc := hP.sub (ws' := wc) is (by
    have : is.filterMap (fun i => ws[i]?) = (is.map (fun i => ws[i]?)).filterMap id := by rw [List.filterMap_map]; rfl
    rw [this, hc, List.filterMap_map]
    exact List.filterMap_some)
  have hDc := hD.sub (ws' := wc) is hnd hc
  have hEc : Ext x (va_A wc H.size) s H := (hE.kept (fun a h1 h2 => hS.2.1 a h1 h2)).narrow (va_free hD hS hA is hc)
  refine mbehind (a := args) (va_runV (As := As) (rest := rest) (n := n) (C := y.cls) ⟨hx, hb, hml, hown, hts⟩ (hC H.size) (cwV n hts (mwV_good hM hlink) rfl rfl rfl ⟨rfl, hM.2.2.2.2⟩ hR) ⟨fun a U g9 mk q => ?_, va_recv hK hP hci hq0, fun U hU hW => ⟨rfl, by rw [hU], by rw [hU]; exact hPc, va_K.moved hW.alike hK, hDc.weaken (fun _ _ _ _ => trivial), by rw [hU]; exact hEc.warm hW⟩⟩ rfl hn hls hst (lv_room hrm) hdg hcs) hA hP hD hS is hc hadr hw hst1 kk
  obtain ⟨q1, q2, q3, q4, q5, q6⟩ := q
  exact ⟨q1, q2, q3, va_K.moved (u := U) (U := U.calling g9 mk a) (Vm.Alike.refl U.vm) q4, q5, Ext.same (s := U) (U := U.calling g9 mk a) rfl q6⟩
theorem mcallS (X : Cx p s m args meth c own cc nL ret0 D g x A) {y : MethodName} {cy : ByteArray} {nLy fry loy n idx : Nat} {rety : Option FieldType} {As rest st0 st1 : List Value} {wc wc1 ws ws1 : va_W} {r : Option Value}
    (hC : Cn D g x l y cy nLy rety fry loy As wc wc1 r) (hM : MwS y cy nLy rety n) (hlink : Cond.methodLink own idx y ∈ wG) (hR : fry + 1 ≤ R.frames ∧ 8 + (nLy + 11) + loy ≤ R.locals)
    (hP : va_P D vwCl ws H) (hD : va_D A ws) (hS : va_S A s.heap H locs) (is : List Nat) (hnd : va_nd is = true) (hc : is.map (fun i => ws[i]?) = wc.map some) (hadr : wc1.map (fun q => q.1) = wc.map (fun q => q.1))
    {pc : Nat} {ls : Array Slot} (hn : As.length = n) (hls : ls.size = nL) (hst : st0 = As.reverse ++ rest) (hrm : (rest.map fun v => v.category).sum ≤ 8) (hdg : decode cc pc = .ok (.invokestatic idx, 3)) (hcs : cells + 0 ≤ R.cells ∧ slots + 0 ≤ R.slots)
    (hw : setL ws is wc1 = ws1) (hst1 : r.toList ++ rest = st1)
    (kk : ∀ (H1 : Heap) (locs1 : List Loc), va_P D vwCl ws1 H1 → va_D A ws1 → va_S A s.heap H1 locs1 → W p l e R s m args below meth c H1 locs1 cells slots Q (F0 m (pc + 3) ls st1)) : W p l e R s m args below meth c H locs cells slots Q (F0 m pc ls st0) := by
  obtain ⟨hx, hb, hml, -, -, hown, hts, hK, hA, hE⟩ := X
  have hPc := hP.sub (ws' := wc) is (by
    have : is.filterMap (fun i => ws[i]?) = (is.map (fun i => ws[i]?)).filterMap id := by rw [List.filterMap_map]; rfl
    rw [this, hc, List.filterMap_map]
    exact List.filterMap_some)
  have hDc := hD.sub (ws' := wc) is hnd hc
  have hEc : Ext x (va_A wc H.size) s H := (hE.kept (fun a h1 h2 => hS.2.1 a h1 h2)).narrow (va_free hD hS hA is hc)
  have hGd := mwS_good hM hlink
  have ok : ∀ w ∈ va_wsS own idx y (mws y cy nLy rety), w.before args s = true := fun w h => hts w (hGd w h).1
  have hCB : CallB R s args own idx y cy nLy rety (mws y cy nLy rety) (rmF fry loy) 0 0 n ∧ (Cond.static y).before args s = true := by
    refine ⟨⟨rfl, rfl, hR.1, hR.2, pay_in hts (mws_good hM.2.2.1), List.mem_cons_self, hts _ hM.2.2.1, hts _ hM.2.1, ⟨hM.2.2.2.1, hM.2.2.2.2.1⟩, fun sig h => ?_, hts _ hlink⟩, hts _ hM.1⟩
    have h2 := hM.2.2.2.2.2
    rw [h] at h2
    exact (Option.some.inj h2).symm
  refine mbehind (a := args) (va_runS (As := As) (rest := rest) (n := n) ⟨hx, hb, hml, hown, hts⟩ (hC H.size) hCB ⟨fun a U g9 mk q => ?_, fun U hU hW => ⟨rfl, by rw [hU], by rw [hU]; exact hPc, va_K.moved hW.alike hK, hDc.weaken (fun _ _ _ _ => trivial), by rw [hU]; exact hEc.warm hW⟩⟩ rfl hn hls hst (lv_room hrm) hdg hcs) hA hP hD hS is hc hadr hw hst1 kk
  obtain ⟨q1, q2, q3, q4, q5, q6⟩ := q
  exact ⟨q1, q2, q3, va_K.moved (u := U) (U := U.calling g9 mk a) (Vm.Alike.refl U.vm) q4, q5, Ext.same (s := U) (U := U.calling g9 mk a) rfl q6⟩
end CALL
/-! ===== fields ===== -/
/-- a field's link: the class own reads by its pool's row idx the field k of the class at place ci -/
def Fl (own : String) (idx ci k : Nat) (b : Bool) : Prop := ∃ (C : String) (T : u_T) (N : Nat) (ty0 : Nat → FieldType), vwCl[ci]? = some (C, T, N) ∧ k < N ∧ (∀ w ∈ u_ws C T N, w ∈ wG) ∧ (Cond.fieldLink own idx (T k).1 (T k).2.1 (T k).2.2.1 ∈ wG ∨ ∃ host : String, (own, idx, (T k).1, (T k).2.1, (T k).2.2.1, host) ∈ nwF) ∧ (∀ k, k < N → parseFieldDescriptor (T k).2.2.1 = some (ty0 k)) ∧ (∀ a, a < N → ∀ b, b < N → a ≠ b → (T a).2.1 ≠ (T b).2.1) ∧ (T k).2.2.2 = b
section FLD
variable {p : Program} {l : Launch} {e : Env} {R : Room} {s : State} {m : MethodId} {args : Array Value} {below : List Frame} {meth : Method} {c : Code} {H : Heap} {locs : List Loc} {cells slots : Nat} {Q : State → Prop}
variable {D : va_G} {g : Nat → ClassId} {x : Xd} {A : Nat → Prop} {own : String} {cc : ByteArray} {nL : Nat} {ret0 : Option FieldType}
theorem mget (X : Cx p s m args meth c own cc nL ret0 D g x A) {idx ci k : Nat} {bf : Bool} (hF : Fl own idx ci k bf) {ws : va_W} (hP : va_P D vwCl ws H) (q0 : Nat) {a : Nat} {fs : List Value} (he : ws[q0]? = some (a, .inr (ci, fs))) {v : Value} (hv : fs[k]? = some v) {pc : Nat} {ls : Array Slot} {rest : List Value} (hdg : decode cc pc = .ok (.getfield idx, 3))
    (kk : W p l e R s m args below meth c H locs cells slots Q (F0 m (pc + 3) ls (v :: rest))) : W p l e R s m args below meth c H locs cells slots Q (F0 m pc ls (.ref a :: rest)) := by
  obtain ⟨hx, hb, hml, -, -, hown, hts, hK, hA, hE⟩ := X
  obtain ⟨C, T, N, ty0, hci, hk, hin, hl | ⟨host, hl⟩, -⟩ := hF
  · exact va_get hx hb hts hin hown hK hP q0 he hci k hk (hts _ hl) (fun _ h => h) hv hdg kk
  · exact va_getN hx hb hts hin hown hK hP q0 he hci k hk (va_Nw.use rfl (hE.1 _ hl)) (fun _ h => h) hv hdg kk
theorem mputI (X : Cx p s m args meth c own cc nL ret0 D g x A) {idx ci k : Nat} (hF : Fl own idx ci k false) {ws ws1 : va_W} (hP : va_P D vwCl ws H) (hD : va_D A ws) (hS : va_S A s.heap H locs) (q0 : Nat) {a : Nat} {fs : List Value} (he : ws[q0]? = some (a, .inr (ci, fs))) {v v0 : Int32} (hv : fs[k]? = some (.int v0)) (ht : ∃ q, vwCl[ci]? = some q ∧ (q.2.1 k).2.2.1 = "I") {pc : Nat} {ls : Array Slot} {rest : List Value} (hdg : decode cc pc = .ok (.putfield idx, 3)) (hw : ws.set q0 (a, .inr (ci, fs.set k (.int v))) = ws1)
    (kk : ∀ (H1 : Heap) (locs1 : List Loc), va_P D vwCl ws1 H1 → va_D A ws1 → va_S A s.heap H1 locs1 → W p l e R s m args below meth c H1 locs1 cells slots Q (F0 m (pc + 3) ls rest)) : W p l e R s m args below meth c H locs cells slots Q (F0 m pc ls (.int v :: .ref a :: rest)) := by
  obtain ⟨hx, hb, hml, -, -, hown, hts, hK, hA, hE⟩ := X
  subst hw
  have hlen : k < fs.length := (List.getElem?_eq_some_iff.mp hv).1
  obtain ⟨C, T, N, ty0, hci, hk, hin, hl, hty, hnm, hfin⟩ := hF
  obtain ⟨q, hq1, hq2⟩ := ht
  cases hci.symm.trans hq1
  have hd : parseFieldDescriptor (T k).2.2.1 = some .int := by rw [show (T k).2.2.1 = "I" from hq2]; decide +kernel
  rcases hl with hl | ⟨host, hl⟩
  · exact va_put hx hb hts hin ty0 hty hnm hown hK hP hD hS q0 he hci k hk (hts _ hl) (fun _ h => h) hfin hd rfl rfl hlen hdg kk
  · exact va_putN hx hb hts hin ty0 hty hnm hown hK hP hD hS q0 he hci k hk (va_Nw.use rfl (hE.1 _ hl)) (fun _ h => h) hfin hd rfl rfl hlen hdg kk
theorem mputL (X : Cx p s m args meth c own cc nL ret0 D g x A) {idx ci k : Nat} (hF : Fl own idx ci k false) {ws ws1 : va_W} (hP : va_P D vwCl ws H) (hD : va_D A ws) (hS : va_S A s.heap H locs) (q0 : Nat) {a : Nat} {fs : List Value} (he : ws[q0]? = some (a, .inr (ci, fs))) {v v0 : Int64} (hv : fs[k]? = some (.long v0)) (ht : ∃ q, vwCl[ci]? = some q ∧ (q.2.1 k).2.2.1 = "J") {pc : Nat} {ls : Array Slot} {rest : List Value} (hdg : decode cc pc = .ok (.putfield idx, 3)) (hw : ws.set q0 (a, .inr (ci, fs.set k (.long v))) = ws1)
    (kk : ∀ (H1 : Heap) (locs1 : List Loc), va_P D vwCl ws1 H1 → va_D A ws1 → va_S A s.heap H1 locs1 → W p l e R s m args below meth c H1 locs1 cells slots Q (F0 m (pc + 3) ls rest)) : W p l e R s m args below meth c H locs cells slots Q (F0 m pc ls (.long v :: .ref a :: rest)) := by
  obtain ⟨hx, hb, hml, -, -, hown, hts, hK, hA, hE⟩ := X
  subst hw
  have hlen : k < fs.length := (List.getElem?_eq_some_iff.mp hv).1
  obtain ⟨C, T, N, ty0, hci, hk, hin, hl, hty, hnm, hfin⟩ := hF
  obtain ⟨q, hq1, hq2⟩ := ht
  cases hci.symm.trans hq1
  have hd : parseFieldDescriptor (T k).2.2.1 = some .long := by rw [show (T k).2.2.1 = "J" from hq2]; decide +kernel
  rcases hl with hl | ⟨host, hl⟩
  · exact va_put hx hb hts hin ty0 hty hnm hown hK hP hD hS q0 he hci k hk (hts _ hl) (fun _ h => h) hfin hd rfl rfl hlen hdg kk
  · exact va_putN hx hb hts hin ty0 hty hnm hown hK hP hD hS q0 he hci k hk (va_Nw.use rfl (hE.1 _ hl)) (fun _ h => h) hfin hd rfl rfl hlen hdg kk
end FLD
/-! ===== arrays ===== -/
section ARR
variable {p : Program} {l : Launch} {e : Env} {R : Room} {s : State} {m : MethodId} {args : Array Value} {below : List Frame} {meth : Method} {c : Code} {H : Heap} {locs : List Loc} {cells slots : Nat} {Q : State → Prop}
variable {D : va_G} {g : Nat → ClassId} {x : Xd} {A : Nat → Prop} {own : String} {cc : ByteArray} {nL : Nat} {ret0 : Option FieldType} {ws ws1 : va_W} {a n : Nat} {pc : Nat} {ls : Array Slot} {rest : List Value}
theorem mild (X : Cx p s m args meth c own cc nL ret0 D g x A) (hP : va_P D vwCl ws H) (q0 : Nat) {f : Nat → Int32} (ha : ws[q0]? = some (a, .inl (g 0, n, .inl f))) {i : Int32} (hin : ¬ (i < 0 ∨ n ≤ i.toNatClampNeg)) (hdg : decode cc pc = .ok (.iaload, 1))
    (kk : W p l e R s m args below meth c H locs cells slots Q (F0 m (pc + 1) ls (.int (f i.toNatClampNeg) :: rest))) : W p l e R s m args below meth c H locs cells slots Q (F0 m pc ls (.int i :: .ref a :: rest)) :=
  va_iald X.1 X.2.1 X.2.2.2.2.2.2.2.1 hP q0 0 ha rfl hin hdg kk
theorem mlld (X : Cx p s m args meth c own cc nL ret0 D g x A) (hP : va_P D vwCl ws H) (q0 : Nat) {f : Nat → Int64} (ha : ws[q0]? = some (a, .inl (g 1, n, .inr (.inl f)))) {i : Int32} (hin : ¬ (i < 0 ∨ n ≤ i.toNatClampNeg)) (hdg : decode cc pc = .ok (.laload, 1))
    (kk : W p l e R s m args below meth c H locs cells slots Q (F0 m (pc + 1) ls (.long (f i.toNatClampNeg) :: rest))) : W p l e R s m args below meth c H locs cells slots Q (F0 m pc ls (.int i :: .ref a :: rest)) :=
  va_lald X.1 X.2.1 X.2.2.2.2.2.2.2.1 hP q0 1 ha rfl hin hdg kk
theorem mcld (X : Cx p s m args meth c own cc nL ret0 D g x A) (hP : va_P D vwCl ws H) (q0 : Nat) {f : Nat → Int32} (ha : ws[q0]? = some (a, .inl (g 2, n, .inl f))) {i : Int32} (hin : ¬ (i < 0 ∨ n ≤ i.toNatClampNeg)) (hdg : decode cc pc = .ok (.caload, 1))
    (kk : W p l e R s m args below meth c H locs cells slots Q (F0 m (pc + 1) ls (.int (f i.toNatClampNeg) :: rest))) : W p l e R s m args below meth c H locs cells slots Q (F0 m pc ls (.int i :: .ref a :: rest)) :=
  va_cald X.1 X.2.1 X.2.2.2.2.2.2.2.1 hP q0 2 ha rfl hin hdg kk
theorem mist (X : Cx p s m args meth c own cc nL ret0 D g x A) (hP : va_P D vwCl ws H) (hD : va_D A ws) (hS : va_S A s.heap H locs) (q0 : Nat) {f : Nat → Int32} (ha : ws[q0]? = some (a, .inl (g 0, n, .inl f))) {i z : Int32} (hin : ¬ (i < 0 ∨ n ≤ i.toNatClampNeg)) (hdg : decode cc pc = .ok (.iastore, 1)) (hw : ws.set q0 (a, .inl (g 0, n, .inl (upd f i.toNatClampNeg z))) = ws1)
    (kk : ∀ (H1 : Heap) (locs1 : List Loc), va_P D vwCl ws1 H1 → va_D A ws1 → va_S A s.heap H1 locs1 → W p l e R s m args below meth c H1 locs1 cells slots Q (F0 m (pc + 1) ls rest)) : W p l e R s m args below meth c H locs cells slots Q (F0 m pc ls (.int z :: .int i :: .ref a :: rest)) := by
  subst hw
  exact va_iast X.1 X.2.1 X.2.2.2.2.2.2.2.1 hP hD hS q0 0 ha rfl hin hdg kk
theorem mlst (X : Cx p s m args meth c own cc nL ret0 D g x A) (hP : va_P D vwCl ws H) (hD : va_D A ws) (hS : va_S A s.heap H locs) (q0 : Nat) {f : Nat → Int64} (ha : ws[q0]? = some (a, .inl (g 1, n, .inr (.inl f)))) {i : Int32} {z : Int64} (hin : ¬ (i < 0 ∨ n ≤ i.toNatClampNeg)) (hdg : decode cc pc = .ok (.lastore, 1)) (hw : ws.set q0 (a, .inl (g 1, n, .inr (.inl (vp_updL f i.toNatClampNeg z)))) = ws1)
    (kk : ∀ (H1 : Heap) (locs1 : List Loc), va_P D vwCl ws1 H1 → va_D A ws1 → va_S A s.heap H1 locs1 → W p l e R s m args below meth c H1 locs1 cells slots Q (F0 m (pc + 1) ls rest)) : W p l e R s m args below meth c H locs cells slots Q (F0 m pc ls (.long z :: .int i :: .ref a :: rest)) := by
  subst hw
  exact va_last X.1 X.2.1 X.2.2.2.2.2.2.2.1 hP hD hS q0 1 ha rfl hin hdg kk
theorem mcst (X : Cx p s m args meth c own cc nL ret0 D g x A) (hP : va_P D vwCl ws H) (hD : va_D A ws) (hS : va_S A s.heap H locs) (q0 : Nat) {f : Nat → Int32} (ha : ws[q0]? = some (a, .inl (g 2, n, .inl f))) {i z : Int32} (hin : ¬ (i < 0 ∨ n ≤ i.toNatClampNeg)) (hdg : decode cc pc = .ok (.castore, 1)) (hw : ws.set q0 (a, .inl (g 2, n, .inl (upd f i.toNatClampNeg (vp_nar .char z)))) = ws1)
    (kk : ∀ (H1 : Heap) (locs1 : List Loc), va_P D vwCl ws1 H1 → va_D A ws1 → va_S A s.heap H1 locs1 → W p l e R s m args below meth c H1 locs1 cells slots Q (F0 m (pc + 1) ls rest)) : W p l e R s m args below meth c H locs cells slots Q (F0 m pc ls (.int z :: .int i :: .ref a :: rest)) := by
  subst hw
  exact va_cast X.1 X.2.1 X.2.2.2.2.2.2.2.1 hP hD hS q0 2 ha rfl hin hdg kk
end ARR
/-! ===== how a model's answer is followed ===== -/
theorem o_no {α : Type} {c : Prop} [Decidable c] {t : Option α} {r : α} (h : (if c then none else t) = some r) : ¬ c ∧ t = some r := by
  by_cases hc : c
  · rw [if_pos hc] at h; cases h
  · rw [if_neg hc] at h; exact ⟨hc, h⟩
theorem o_t {α : Type} {c : Prop} [Decidable c] {a b : Option α} {r : α} (hc : c) (h : (if c then a else b) = some r) : a = some r := by rw [if_pos hc] at h; exact h
theorem o_f {α : Type} {c : Prop} [Decidable c] {a b : Option α} {r : α} (hc : ¬ c) (h : (if c then a else b) = some r) : b = some r := by rw [if_neg hc] at h; exact h
theorem o_b {α β : Type} {x : Option α} {f : α → Option β} {r : β} (h : x.bind f = some r) : ∃ a, x = some a ∧ f a = some r := Option.bind_eq_some_iff.mp h
theorem o_g {α : Type} {c : Prop} [Decidable c] {t : Option α} {r : α} (h : (if ¬ c then none else t) = some r) : c ∧ t = some r := by
  by_cases hc : c
  · rw [if_neg (fun h => h hc)] at h; exact ⟨hc, h⟩
  · rw [if_pos hc] at h; cases h
theorem nar_z {v : Int32} (h : v = 0 ∨ v = 1) : narrow .boolean (.int v) = .int v := by rcases h with rfl | rfl <;> rfl
theorem nar_c {v : Int32} (h : vp_nar .char v = v) : narrow .char (.int v) = .int v := congrArg Value.int ((vp_nar_char v).symm.trans h)
/-- the bound of each loop's rounds -/
def FU : Nat := 2048
def mabsl_v (x : Int64) : Int64 := if 0 < x then x else -x
def mabsi_v (x : Int32) : Int32 := if 0 ≤ x then x else 0 - x
def mmini_v (x y : Int32) : Int32 := if y < x then y else x
def mmaxi_v (x y : Int32) : Int32 := if x < y then y else x
theorem mth_ini : Cond.initialized "java/lang/Math" ∈ wG := wG_t 13 (by decide +kernel) (by decide +kernel)
theorem mth_absl : Cond.static Lib.MathLoose.abs_long.x ∈ wG ∧ Cond.code Lib.MathLoose.abs_long.x Lib.MathLoose.abs_long.code 2 (some .long) ∈ wG := ⟨wG_t 334 (by decide +kernel) (by decide +kernel), wG_t 335 (by decide +kernel) (by decide +kernel)⟩
theorem mth_absi : Cond.static Lib.Math.abs.name ∈ wG ∧ Cond.code Lib.Math.abs.name Lib.Math.abs.code 1 (some .int) ∈ wG := ⟨wG_t 941 (by decide +kernel) (by decide +kernel), wG_t 942 (by decide +kernel) (by decide +kernel)⟩
theorem mth_min : Cond.static Lib.Math.min.name ∈ wG ∧ Cond.code Lib.Math.min.name Lib.Math.min.code 2 (some .int) ∈ wG := ⟨wG_t 325 (by decide +kernel) (by decide +kernel), wG_t 326 (by decide +kernel) (by decide +kernel)⟩
theorem mth_max : Cond.static Lib.Math.max.name ∈ wG ∧ Cond.code Lib.Math.max.name Lib.Math.max.code 2 (some .int) ∈ wG := ⟨wG_t 328 (by decide +kernel) (by decide +kernel), wG_t 329 (by decide +kernel) (by decide +kernel)⟩
section MTH
variable {p : Program} {l : Launch} {e : Env} {R : Room} {s : State} {m : MethodId} {args : Array Value} {below : List Frame} {meth : Method} {c : Code} {H : Heap} {locs : List Loc} {Q : State → Prop}
variable {D : va_G} {g : Nat → ClassId} {x : Xd} {A : Nat → Prop} {own : String} {cc : ByteArray} {nL : Nat} {ret0 : Option FieldType} {pc idx : Nat} {ls : Array Slot} {rest : List Value}
theorem mabsl (X : Cx p s m args meth c own cc nL ret0 D g x A) (hlk : Cond.methodLink own idx Lib.MathLoose.abs_long.x ∈ wG) (hls : ls.size = nL) (hf : 1 ≤ R.frames) (hlo : (rest.map fun v => v.category).sum + 13 ≤ R.locals) {v : Int64} (hdg : decode cc pc = .ok (.invokestatic idx, 3))
    (kk : W p l e R s m args below meth c H locs 0 0 Q (F0 m (pc + 3) ls (.long (mabsl_v v) :: rest))) : W p l e R s m args below meth c H locs 0 0 Q (F0 m pc ls (.long v :: rest)) :=
  va_mabs_long X.1 X.2.1 (X.2.2.1.trans hls.symm) X.2.2.2.2.2.1 (X.2.2.2.2.2.2.1 _ hlk) (X.2.2.2.2.2.2.1 _ mth_absl.1) (X.2.2.2.2.2.2.1 _ mth_ini) (X.2.2.2.2.2.2.1 _ mth_absl.2) hf hlo (Nat.zero_le _) (Nat.zero_le _) hdg kk
theorem mabsi (X : Cx p s m args meth c own cc nL ret0 D g x A) (hlk : Cond.methodLink own idx Lib.Math.abs.name ∈ wG) (hls : ls.size = nL) (hf : 1 ≤ R.frames) (hlo : (rest.map fun v => v.category).sum + 13 ≤ R.locals) {v : Int32} (hdg : decode cc pc = .ok (.invokestatic idx, 3))
    (kk : W p l e R s m args below meth c H locs 0 0 Q (F0 m (pc + 3) ls (.int (mabsi_v v) :: rest))) : W p l e R s m args below meth c H locs 0 0 Q (F0 m pc ls (.int v :: rest)) :=
  va_mabs X.1 X.2.1 (X.2.2.1.trans hls.symm) X.2.2.2.2.2.1 (X.2.2.2.2.2.2.1 _ hlk) (X.2.2.2.2.2.2.1 _ mth_absi.1) (X.2.2.2.2.2.2.1 _ mth_ini) (X.2.2.2.2.2.2.1 _ mth_absi.2) hf hlo (Nat.zero_le _) (Nat.zero_le _) hdg kk
theorem mmini (X : Cx p s m args meth c own cc nL ret0 D g x A) (hlk : Cond.methodLink own idx Lib.Math.min.name ∈ wG) (hls : ls.size = nL) (hf : 1 ≤ R.frames) (hlo : (rest.map fun v => v.category).sum + 13 ≤ R.locals) {v w : Int32} (hdg : decode cc pc = .ok (.invokestatic idx, 3))
    (kk : W p l e R s m args below meth c H locs 0 0 Q (F0 m (pc + 3) ls (.int (mmini_v v w) :: rest))) : W p l e R s m args below meth c H locs 0 0 Q (F0 m pc ls (.int w :: .int v :: rest)) :=
  va_mmin X.1 X.2.1 (X.2.2.1.trans hls.symm) X.2.2.2.2.2.1 (X.2.2.2.2.2.2.1 _ hlk) (X.2.2.2.2.2.2.1 _ mth_min.1) (X.2.2.2.2.2.2.1 _ mth_ini) (X.2.2.2.2.2.2.1 _ mth_min.2) hf hlo (Nat.zero_le _) (Nat.zero_le _) hdg kk
theorem mmaxi (X : Cx p s m args meth c own cc nL ret0 D g x A) (hlk : Cond.methodLink own idx Lib.Math.max.name ∈ wG) (hls : ls.size = nL) (hf : 1 ≤ R.frames) (hlo : (rest.map fun v => v.category).sum + 13 ≤ R.locals) {v w : Int32} (hdg : decode cc pc = .ok (.invokestatic idx, 3))
    (kk : W p l e R s m args below meth c H locs 0 0 Q (F0 m (pc + 3) ls (.int (mmaxi_v v w) :: rest))) : W p l e R s m args below meth c H locs 0 0 Q (F0 m pc ls (.int w :: .int v :: rest)) :=
  va_mmax X.1 X.2.1 (X.2.2.1.trans hls.symm) X.2.2.2.2.2.1 (X.2.2.2.2.2.2.1 _ hlk) (X.2.2.2.2.2.2.1 _ mth_max.1) (X.2.2.2.2.2.2.1 _ mth_ini) (X.2.2.2.2.2.2.1 _ mth_max.2) hf hlo (Nat.zero_le _) (Nat.zero_le _) hdg kk
end MTH
theorem sw_ne {x : Int32} {k : Int32} (h : ¬ x = k) : x.toInt ≠ k.toInt := fun e => h (Int32.toInt.inj e)
theorem sw_out3 {x : Int32} (h0 : ¬ x = 0) (h1 : ¬ x = 1) (h2 : ¬ x = 2) : x.toInt < 0 ∨ 2 < x.toInt := by
  have a := sw_ne h0
  have b := sw_ne h1
  have c := sw_ne h2
  rw [show (0 : Int32).toInt = 0 from rfl] at a
  rw [show (1 : Int32).toInt = 1 from rfl] at b
  rw [show (2 : Int32).toInt = 2 from rfl] at c
  omega
