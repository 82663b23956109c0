/-! Chains of appends (by program). -/
theorem gsub {D : va_G} {A : Nat → Prop} {u v : va_W} {H : Heap} (hs : ∀ q ∈ v, q ∈ u) (hn : ((u.map (fun q => q.1)).Nodup → (v.map (fun q => q.1)).Nodup)) (hP : va_P D vwCl u H) (hD : va_D A u) : va_P D vwCl v H ∧ va_D A v := by
  have hAm : ∀ q ∈ u, A q.1 := fun q hq => by
    obtain ⟨k, hk⟩ := List.getElem?_of_mem hq
    exact hD.2 k q hk
  exact ⟨P_mem.mpr fun q hq => P_mem.mp hP q (hs q hq), D_of (hn (D_nodup hD)) (fun q hq => hAm q (hs q hq))⟩
theorem gdropM {D : va_G} {A : Nat → Prop} {u v w : va_W} {H : Heap} (hP : va_P D vwCl (u ++ (v ++ w)) H) (hD : va_D A (u ++ (v ++ w))) : va_P D vwCl (u ++ w) H ∧ va_D A (u ++ w) := by
  refine gsub (fun q hq => ?_) (fun h => ?_) hP hD
  · rcases List.mem_append.mp hq with h | h
    · exact List.mem_append_left _ h
    · exact List.mem_append_right _ (List.mem_append_right _ h)
  · refine List.Sublist.nodup (List.Sublist.map _ ?_) h
    exact List.Sublist.append (List.Sublist.refl u) (List.sublist_append_right v w)
theorem gdropR {D : va_G} {A : Nat → Prop} {u v w : va_W} {H : Heap} (hP : va_P D vwCl (u ++ (v ++ w)) H) (hD : va_D A (u ++ (v ++ w))) : va_P D vwCl (u ++ v) H ∧ va_D A (u ++ v) := by
  refine gsub (fun q hq => ?_) (fun h => ?_) hP hD
  · rcases List.mem_append.mp hq with h | h
    · exact List.mem_append_left _ h
    · exact List.mem_append_right _ (List.mem_append_left _ h)
  · refine List.Sublist.nodup (List.Sublist.map _ ?_) h
    exact List.Sublist.append (List.Sublist.refl u) (List.sublist_append_left v w)
theorem gswap {D : va_G} {A : Nat → Prop} {u v w : va_W} {H : Heap} (hP : va_P D vwCl ((u ++ v) ++ w) H) (hD : va_D A ((u ++ v) ++ w)) : va_P D vwCl (u ++ (w ++ v)) H ∧ va_D A (u ++ (w ++ v)) := by
  have hp : ((u ++ v) ++ w).Perm (u ++ (w ++ v)) := by
    rw [List.append_assoc]
    exact List.Perm.append_left u List.perm_append_comm
  exact gsub (fun q hq => hp.mem_iff.mpr hq) (fun h => (hp.map _).nodup_iff.mp h) hP hD
/-- a text that stands in TW at tv: its letters L can be handed to a new builder -/
def TS (D : va_G) (g : Nat → ClassId) (x : Xd) (l : Launch) (tv : Nat) (TW : va_W) (L : List Nat) : Prop :=
  ∀ q r : Nat, CnG D g x l yJ4_append_15ec4 cJ4_append_15ec4 2 (some (.object "java/lang/StringBuilder")) 5 260 1 1024 [.ref q, .ref tv] (sbW g q r 0 16 (fun _ => 0) ++ TW) (fun v w => v = some (.ref q) ∧ ∃ r1 cap1 f1, w = sbW g q r1 L.length cap1 f1 ++ TW ∧ cap1 ≤ 410 ∧ L.length ≤ cap1 ∧ Tx L f1)
theorem Tx0 : Tx [] (fun _ => 0) := ⟨fun _ => show fits .byte (.int 0) = true by decide, fun i h => absurd h (Nat.not_lt_zero i)⟩
theorem TS0 (D : va_G) (g : Nat → ClassId) (x : Xd) (l : Launch) : TS D g x l (x.1 5) [] [] := fun q r =>
  kJ4c_app D g x l q r 16 [] (fun _ => 0) Tx0 (Nat.zero_le _) (by decide) 5 (by decide) (by decide)
theorem TS1 (D : va_G) (g : Nat → ClassId) (x : Xd) (l : Launch) {ta tb : Nat} {L : List Nat} {f : Nat → Int32} (h : Tx L f) (hk : L.length ≤ 200) : TS D g x l ta (stW g ta tb L.length f) L := fun q r =>
  kJ4d_app D g x l q r 16 [] (fun _ => 0) Tx0 (Nat.zero_le _) (by decide) ta tb L f h hk
section CHN
variable {p : Program} {l : Launch} {e : Env} {R : Room} {s : State} {m : MethodId} {args : Array Value} {below : List Frame} {meth : Method} {c : Code} {H : Heap} {locs : List Loc} {cells slots : Nat} {Q : State → Prop}
variable {D : va_G} {g : Nat → ClassId} {x : Xd} {A : Nat → Prop} {ret0 : Option FieldType} {pc : Nat} {ls : Array Slot}
theorem gcallV0 {own : String} {cc : ByteArray} {nL : Nat} {rest : List Value} (X : Cx p s m args meth c own cc nL ret0 D g x A) {y : MethodName} {cy : ByteArray} {nLy fry loy mcy msy n idx : Nat} {rety : Option FieldType} {b : Nat} {As st0 : List Value} {wr wc : va_W} {post : Option Value → va_W → Prop}
    (hC : CnG D g x l y cy nLy rety fry loy mcy msy (.ref b :: As) wc post) (hM : MwV y cy nLy rety n) (hlink : Cond.methodLink own idx y ∈ wG) (hR : fry + 1 ≤ R.frames ∧ 8 + (nLy + 11) + loy ≤ R.locals)
    (hP : va_P D vwCl (wr ++ wc) H) (hD : va_D A (wr ++ wc)) (hS : va_S A s.heap H locs) {T : va_W} {ci N : Nat} {Tt : u_T} {fs : List Value} (hwc : wc = (b, .inr (ci, fs)) :: T) (hci : vwCl[ci]? = some (y.cls, Tt, N))
    (hn : As.length = n) (hls : ls.size = nL) (hst : st0 = As.reverse ++ .ref b :: rest) (hrm : (rest.map fun v => v.category).sum ≤ 8) (hdg : decode cc pc = .ok (.invokevirtual idx, 3)) (hcs : cells + mcy ≤ R.cells ∧ slots + msy ≤ R.slots)
    (kk : ∀ (r : Option Value) (w1 : va_W) (H1 : Heap) (locs1 : List Loc), post r w1 → va_P D vwCl (wr ++ w1) H1 → va_D A (wr ++ w1) → va_S A s.heap H1 locs1 → W p l e R s m args below meth c H1 locs1 (cells + mcy) (slots + msy) Q (F0 m (pc + 3) ls (r.toList ++ rest))) : W p l e R s m args below meth c H locs cells slots Q (F0 m pc ls st0) := by
  obtain ⟨hx, hb, hml, -, -, hown, hts, hK, hA, hE⟩ := X
  have hq0 : (wr ++ wc)[wr.length]? = some (b, .inr (ci, fs)) := by
    rw [List.getElem?_append_right (Nat.le_refl _), Nat.sub_self, hwc]
    rfl
  have hrc := va_recv hK hP hci hq0
  obtain ⟨h1, h2⟩ := gpre (g := g) (x := x) hE hK hA hP hD hS (.ref b :: As)
  exact gbehind (a := args) (va_runV (As := As) (rest := rest) (n := n) (C := y.cls) ⟨hx, hb, hml, hown, hts⟩ (hC H.size) (cwV n hts (mwV_good hM hlink) rfl rfl rfl ⟨rfl, hM.2.2.2.2⟩ hR) ⟨h1, hrc, h2⟩ rfl hn hls hst (lv_room hrm) hdg hcs) hA hP hD hS kk
theorem gcallI0 {own : String} {cc : ByteArray} {nL : Nat} {rest : List Value} (X : Cx p s m args meth c own cc nL ret0 D g x A) {y : MethodName} {cy : ByteArray} {nLy fry loy mcy msy n idx : Nat} {b : Nat} {As st0 : List Value} {wr wc : va_W} {post : Option Value → va_W → Prop}
    (hC : CnG D g x l y cy nLy none fry loy mcy msy (.ref b :: As) wc post) (hM : MwC y cy nLy n) (hlink : Cond.methodLink own idx y ∈ wG) (hR : fry + 1 ≤ R.frames ∧ 8 + (nLy + 11) + loy ≤ R.locals)
    (hP : va_P D vwCl (wr ++ wc) H) (hD : va_D A (wr ++ wc)) (hS : va_S A s.heap H locs)
    (hn : As.length = n) (hls : ls.size = nL) (hst : st0 = As.reverse ++ .ref b :: rest) (hrm : (rest.map fun v => v.category).sum ≤ 8) (hdg : decode cc pc = .ok (.invokespecial idx, 3)) (hcs : cells + mcy ≤ R.cells ∧ slots + msy ≤ R.slots)
    (kk : ∀ (r : Option Value) (w1 : va_W) (H1 : Heap) (locs1 : List Loc), post r w1 → va_P D vwCl (wr ++ w1) H1 → va_D A (wr ++ w1) → va_S A s.heap H1 locs1 → W p l e R s m args below meth c H1 locs1 (cells + mcy) (slots + msy) Q (F0 m (pc + 3) ls (r.toList ++ rest))) : W p l e R s m args below meth c H locs cells slots Q (F0 m pc ls st0) := by
  obtain ⟨hx, hb, hml, -, -, hown, hts, hK, hA, hE⟩ := X
  have hCB : CallB R s args own idx y cy nLy none (mws y cy nLy none) (rmC fry loy mcy msy) mcy msy n := ⟨rfl, rfl, hR.1, hR.2, pay_in hts (mws_good hM.2.2.2.1), List.mem_cons_self, hts _ hM.2.2.2.1, hts _ hM.2.2.1, ⟨hM.2.2.2.2.1, hM.2.2.2.2.2.1⟩, gsig hM.2.2.2.2.2.2, hts _ hlink⟩
  exact gbehind (a := args) (va_runI (As := As) (rest := rest) (n := n) ⟨hx, hb, hml, hown, hts⟩ (hC H.size) ⟨hCB, hM.1, hts _ hM.2.1⟩ (gpre hE hK hA hP hD hS (.ref b :: As)) rfl hn hls hst (lv_room hrm) hdg hcs) hA hP hD hS kk
/-- a new builder -/
theorem tapN (X : Cx p s m args meth c RL cL_text 7 ret0 D g x A) (hR : 6 ≤ R.frames ∧ 300 ≤ R.locals) (wr : va_W) (hP : va_P D vwCl wr H) (hD : va_D A wr) (hS : va_S A s.heap H locs) (hls : ls.size = 7) (d0 : decode cL_text pc = .ok (.new 73, 3)) (d3 : decode cL_text (pc + 3) = .ok (.dup, 1)) (d4 : decode cL_text (pc + 4) = .ok (.invokespecial 75, 3)) (hcs : cells + 2 ≤ R.cells ∧ slots + 20 ≤ R.slots)
    (kk : ∀ (q r : Nat) (H1 : Heap) (locs1 : List Loc), va_P D vwCl (wr ++ sbW g q r 0 16 (fun _ => 0)) H1 → va_D A (wr ++ sbW g q r 0 16 (fun _ => 0)) → va_S A s.heap H1 locs1 → W p l e R s m args below meth c H1 locs1 (cells + 2) (slots + 20) Q (F0 m (pc + 7) ls [.ref q])) : W p l e R s m args below meth c H locs cells slots Q (F0 m pc ls []) := by
  obtain ⟨hx, hb, -⟩ := id X
  refine cnewO X (ws := wr) nw_L_73 hP hD hS (by omega) (by omega) d0 (fun q H hP hD hS => ?_)
  refine lv_dup hx hb d3 rfl ?_
  refine gcallI0 X (As := []) (rest := [.ref q]) (wr := wr) (kJ4_init D g x l q) mw_J4_init_da8c8 ml_L_75 ⟨Nat.le_trans (by decide) hR.1, Nat.le_trans (by decide) hR.2⟩ hP hD hS rfl hls rfl (Nat.le_of_ble_eq_true rfl) d4 ⟨by omega, by omega⟩ (fun v w1 H1 locs1 hp hP hD hS => ?_)
  obtain ⟨rfl, r, rfl⟩ := hp
  exact kk q r H1 locs1 hP hD hS
/-- append a constant -/
theorem tapC (X : Cx p s m args meth c RL cL_text 7 ret0 D g x A) (hR : 6 ≤ R.frames ∧ 300 ≤ R.locals) (wr : va_W) {q r cap : Nat} {L : List Nat} {f : Nat → Int32} (hf : Tx L f) (hL : L.length ≤ cap) (hcap : cap ≤ 410) (i : Nat) (hi : i < 13) (hk : (L ++ litL i).length ≤ 200) (hP : va_P D vwCl (wr ++ sbW g q r L.length cap f) H) (hD : va_D A (wr ++ sbW g q r L.length cap f)) (hS : va_S A s.heap H locs) {idx : Nat} {txt : String} (hld : vk_R RL idx txt (x.1 i) s) (hls : ls.size = 7) (d0 : decode cL_text pc = .ok (.ldc idx, 2)) (d1 : decode cL_text (pc + 2) = .ok (.invokevirtual 76, 3)) (hcs : cells + 1 ≤ R.cells ∧ slots + 1024 ≤ R.slots)
    (kk : ∀ (r1 cap1 : Nat) (f1 : Nat → Int32) (H1 : Heap) (locs1 : List Loc), cap1 ≤ 410 → (L ++ litL i).length ≤ cap1 → Tx (L ++ litL i) f1 → va_P D vwCl (wr ++ sbW g q r1 (L ++ litL i).length cap1 f1) H1 → va_D A (wr ++ sbW g q r1 (L ++ litL i).length cap1 f1) → va_S A s.heap H1 locs1 → W p l e R s m args below meth c H1 locs1 (cells + 1) (slots + 1024) Q (F0 m (pc + 5) ls [.ref q])) : W p l e R s m args below meth c H locs cells slots Q (F0 m pc ls [.ref q]) := by
  obtain ⟨hx, hb, hml, -, -, hown, hts, hK, hA, hE⟩ := id X
  refine va_ldcS hx hb hown hld d0 ?_
  refine gcallV0 X (As := [.ref (x.1 i)]) (rest := []) (wr := wr) (kJ4c_app D g x l q r cap L f hf hL hcap i hi hk) mw_J4_append_15ec4 ml_L_76 ⟨Nat.le_trans (by decide) hR.1, Nat.le_trans (by decide) hR.2⟩ hP hD hS rfl rfl rfl hls rfl (by decide) d1 hcs (fun v w1 H1 locs1 hp hP hD hS => ?_)
  obtain ⟨rfl, r1, cap1, f1, rfl, h1, h2, h3⟩ := hp
  exact kk r1 cap1 f1 H1 locs1 h1 h2 h3 hP hD hS
/-- append a number -/
theorem tapI (X : Cx p s m args meth c RL cL_text 7 ret0 D g x A) (hR : 6 ≤ R.frames ∧ 300 ≤ R.locals) (wr : va_W) {q r cap : Nat} {L : List Nat} {f : Nat → Int32} (hf : Tx L f) (hL : L.length ≤ cap) (hcap : cap ≤ 410) (v : Int) (h0 : -99 ≤ v) (h1 : v ≤ 99) (hk : (L ++ dcN v).length ≤ 200) (hP : va_P D vwCl (wr ++ sbW g q r L.length cap f) H) (hD : va_D A (wr ++ sbW g q r L.length cap f)) (hS : va_S A s.heap H locs) (hls : ls.size = 7) (d1 : decode cL_text pc = .ok (.invokevirtual 82, 3)) (hcs : cells + 1 ≤ R.cells ∧ slots + 1024 ≤ R.slots)
    (kk : ∀ (r1 cap1 : Nat) (f1 : Nat → Int32) (H1 : Heap) (locs1 : List Loc), cap1 ≤ 410 → (L ++ dcN v).length ≤ cap1 → Tx (L ++ dcN v) f1 → va_P D vwCl (wr ++ sbW g q r1 (L ++ dcN v).length cap1 f1) H1 → va_D A (wr ++ sbW g q r1 (L ++ dcN v).length cap1 f1) → va_S A s.heap H1 locs1 → W p l e R s m args below meth c H1 locs1 (cells + 1) (slots + 1024) Q (F0 m (pc + 3) ls [.ref q])) : W p l e R s m args below meth c H locs cells slots Q (F0 m pc ls [.int (z3 v), .ref q]) := by
  refine gcallV0 X (As := [.int (z3 v)]) (rest := []) (wr := wr) (kJ4_appI D g x l q r cap L f hf hL hcap v h0 h1 hk) mw_J4_append_bf812 ml_L_82 ⟨Nat.le_trans (by decide) hR.1, Nat.le_trans (by decide) hR.2⟩ hP hD hS rfl rfl rfl hls rfl (by decide) d1 hcs (fun v w1 H1 locs1 hp hP hD hS => ?_)
  obtain ⟨rfl, r1, cap1, f1, rfl, h1, h2, h3⟩ := hp
  exact kk r1 cap1 f1 H1 locs1 h1 h2 h3 hP hD hS
/-- append the text made so far -/
theorem tapD (X : Cx p s m args meth c RL cL_text 7 ret0 D g x A) (hR : 6 ≤ R.frames ∧ 300 ≤ R.locals) (wr TW : va_W) {q r tv : Nat} {L : List Nat} (hT : TS D g x l tv TW L) (hP : va_P D vwCl ((wr ++ TW) ++ sbW g q r 0 16 (fun _ => 0)) H) (hD : va_D A ((wr ++ TW) ++ sbW g q r 0 16 (fun _ => 0))) (hS : va_S A s.heap H locs) (hls : ls.size = 7) (h4 : ls[4]? = some (.val (.ref tv))) (d0 : decode cL_text pc = .ok (.aload 4, 2)) (d1 : decode cL_text (pc + 2) = .ok (.invokevirtual 76, 3)) (hcs : cells + 1 ≤ R.cells ∧ slots + 1024 ≤ R.slots)
    (kk : ∀ (r1 cap1 : Nat) (f1 : Nat → Int32) (H1 : Heap) (locs1 : List Loc), cap1 ≤ 410 → L.length ≤ cap1 → Tx L f1 → va_P D vwCl (wr ++ sbW g q r1 L.length cap1 f1) H1 → va_D A (wr ++ sbW g q r1 L.length cap1 f1) → va_S A s.heap H1 locs1 → W p l e R s m args below meth c H1 locs1 (cells + 1) (slots + 1024) Q (F0 m (pc + 5) ls [.ref q])) : W p l e R s m args below meth c H locs cells slots Q (F0 m pc ls [.ref q]) := by
  obtain ⟨hx, hb, -⟩ := id X
  obtain ⟨hP, hD⟩ := gswap hP hD
  refine lv_aload hx hb d0 h4 ?_
  refine gcallV0 X (As := [.ref tv]) (rest := []) (wr := wr) (hT q r) mw_J4_append_15ec4 ml_L_76 ⟨Nat.le_trans (by decide) hR.1, Nat.le_trans (by decide) hR.2⟩ hP hD hS rfl rfl rfl hls rfl (by decide) d1 hcs (fun v w1 H1 locs1 hp hP hD hS => ?_)
  obtain ⟨rfl, r1, cap1, f1, rfl, h1, h2, h3⟩ := hp
  obtain ⟨hP, hD⟩ := gdropR hP hD
  exact kk r1 cap1 f1 H1 locs1 h1 h2 h3 hP hD hS
/-- the text that was made -/
theorem tapT (X : Cx p s m args meth c RL cL_text 7 ret0 D g x A) (hR : 6 ≤ R.frames ∧ 300 ≤ R.locals) (wr : va_W) {q r cap : Nat} {L : List Nat} {f : Nat → Int32} (hf : Tx L f) (hL : L.length ≤ cap) (hcap : cap ≤ 410) (hP : va_P D vwCl (wr ++ sbW g q r L.length cap f) H) (hD : va_D A (wr ++ sbW g q r L.length cap f)) (hS : va_S A s.heap H locs) (hls : ls.size = 7) (d1 : decode cL_text pc = .ok (.invokevirtual 91, 3)) (hcs : cells + 2 ≤ R.cells ∧ slots + 1028 ≤ R.slots)
    (kk : ∀ (ta tb : Nat) (f1 : Nat → Int32) (H1 : Heap) (locs1 : List Loc), Tx L f1 → va_P D vwCl (wr ++ stW g ta tb L.length f1) H1 → va_D A (wr ++ stW g ta tb L.length f1) → va_S A s.heap H1 locs1 → W p l e R s m args below meth c H1 locs1 (cells + 2) (slots + 1028) Q (F0 m (pc + 3) ls [.ref ta])) : W p l e R s m args below meth c H locs cells slots Q (F0 m pc ls [.ref q]) := by
  refine gcallV0 X (As := []) (rest := []) (wr := wr) (kJ4_toString D g x l q r cap L f hf hL hcap) mw_J4_toString_0e30d ml_L_91 ⟨Nat.le_trans (by decide) hR.1, Nat.le_trans (by decide) hR.2⟩ hP hD hS rfl rfl rfl hls rfl (by decide) d1 hcs (fun v w1 H1 locs1 hp hP hD hS => ?_)
  obtain ⟨ta, tb, f1, rfl, rfl, h3⟩ := hp
  obtain ⟨hP, hD⟩ := gdropM hP hD
  exact kk ta tb f1 H1 locs1 h3 hP hD hS
end CHN
/-! What stands in the law's text. -/
def stm (q : Int × Int × Int) : List Nat := litL 6 ++ (dcN q.1 ++ (litL 7 ++ (dcN q.2.1 ++ (litL 8 ++ (dcN q.2.2 ++ litL 9)))))
def txs (ps : List (Int × Int × Int)) : List Nat := (ps.map stm).flatten
theorem txs_a (ps : List (Int × Int × Int)) (q : Int × Int × Int) : txs (ps ++ [q]) = ((((((txs ps ++ litL 6) ++ dcN q.1) ++ litL 7) ++ dcN q.2.1) ++ litL 8) ++ dcN q.2.2) ++ litL 9 := by
  unfold txs
  rw [List.map_append, List.flatten_append]
  show (List.map stm ps).flatten ++ (stm q ++ []) = _
  unfold stm
  simp only [List.append_assoc, List.append_nil]
def azs (ps : List (Int × Int × Int)) : AZ := ps.foldl (fun a q => apd a q.1 q.2.1 q.2.2) (0, 0, 0, fun _ => 0, fun _ => 0, fun _ => 0)
theorem azs_a (ps : List (Int × Int × Int)) (q : Int × Int × Int) : azs (ps ++ [q]) = apd (azs ps) q.1 q.2.1 q.2.2 := by
  unfold azs
  rw [List.foldl_append]
  rfl
theorem tk_n {C c : Int} {X : Int → Int} {xs : Nat → Int32} (h0 : 0 ≤ C) (h5 : C ≤ 5) (hx : En 0 C xs X) (hr : Rz C (-9) 9 X) (h : ∀ k, 0 ≤ k → k < C → X k ≠ c) (c0 : -100 ≤ c) (c1 : c ≤ 100) : mL_isTaken xs (z3 c) (z3 C) = some 0 := by
  obtain ⟨n, -, e, -⟩ := skipr (fun n j (_ : Unit) => lL_isTaken_2 (z3 c) (z3 C) xs n (z3 j)) (fun j _ => 0 ≤ j) C
    (fun n j _ hj hp => by
      have hp : 0 ≤ j := hp
      have e1 := hx.z hp (show j < C by omega)
      have r1 := hr j hp (by omega)
      have ne : X j ≠ c := h j hp hj
      refine ⟨(), ?_, by omega⟩
      simp (disch := omega) only [lL_isTaken_2, l3_0, l3_1, l3_2, l3_3, l3_4, l3_5, l3_8, l3_9, l3_10, l3_12, l3_13, l3_14, l3_18, l3_19, l3_20, l3_24, l3_31, l3_32, l3_33, l3_45, l3_47, l3_48, l3_57, l3_58, l3_59, l3_63, l3_94, l3_97, l3_120, l3_122, l3_180, l3_200, l3_255, l3_320, l3_400, z3a, z3s, z3m, z3n, z3le, z3lt, z3eq, z3nat, z364, if_neg, e1])
    C.toNat FU 0 () (by omega) (fuel (by omega)) (by omega)
  unfold mL_isTaken
  rw [l3_0, e]
  simp (disch := omega) only [lL_isTaken_2, z3le, if_pos, Option.bind_some]
  rfl
theorem tk_y {C c k : Int} {X : Int → Int} {xs : Nat → Int32} (h0 : 0 ≤ C) (h5 : C ≤ 5) (hx : En 0 C xs X) (hr : Rz C (-9) 9 X) (hi : Inj C X) (k0 : 0 ≤ k) (k1 : k < C) (h : X k = c) : mL_isTaken xs (z3 c) (z3 C) = some 1 := by
  have rk := hr k k0 k1
  obtain ⟨n, -, e, -⟩ := skipr (fun n j (_ : Unit) => lL_isTaken_2 (z3 c) (z3 C) xs n (z3 j)) (fun j _ => 0 ≤ j) k
    (fun n j _ hj hp => by
      have hp : 0 ≤ j := hp
      have e1 := hx.z hp (show j < C by omega)
      have r1 := hr j hp (by omega)
      have ne : X j ≠ c := fun w => by
        have := hi j k hp (by omega) k0 k1 (by omega)
        omega
      refine ⟨(), ?_, by omega⟩
      simp (disch := omega) only [lL_isTaken_2, l3_0, l3_1, l3_2, l3_3, l3_4, l3_5, l3_8, l3_9, l3_10, l3_12, l3_13, l3_14, l3_18, l3_19, l3_20, l3_24, l3_31, l3_32, l3_33, l3_45, l3_47, l3_48, l3_57, l3_58, l3_59, l3_63, l3_94, l3_97, l3_120, l3_122, l3_180, l3_200, l3_255, l3_320, l3_400, z3a, z3s, z3m, z3n, z3le, z3lt, z3eq, z3nat, z364, if_neg, e1])
    k.toNat FU 0 () (by omega) (fuel (by omega)) (by omega)
  have e1 := hx.z k0 k1
  unfold mL_isTaken
  rw [l3_0, e]
  simp (disch := omega) only [lL_isTaken_2, l3_0, l3_1, l3_2, l3_3, l3_4, l3_5, l3_8, l3_9, l3_10, l3_12, l3_13, l3_14, l3_18, l3_19, l3_20, l3_24, l3_31, l3_32, l3_33, l3_45, l3_47, l3_48, l3_57, l3_58, l3_59, l3_63, l3_94, l3_97, l3_120, l3_122, l3_180, l3_200, l3_255, l3_320, l3_400, z3a, z3s, z3m, z3n, z3le, z3lt, z3eq, z3nat, z364, if_neg, if_pos, Option.bind_some, e1]
  rfl
/-- the next place, when one is taken -/
def nx5 (c : Int) : Int := if c = 5 then -5 else c + 1
def nxi : Nat → Int → Int
  | 0, c => c
  | n + 1, c => nxi n (nx5 c)
theorem nx5_b {c : Int} (c0 : -5 ≤ c) (c1 : c ≤ 5) : -5 ≤ nx5 c ∧ nx5 c ≤ 5 := by
  unfold nx5
  split <;> omega
theorem nx5_c (c : Int) : (c = 5 ∧ nx5 c = -5) ∨ (c ≠ 5 ∧ nx5 c = c + 1) := by
  unfold nx5
  split <;> omega
theorem nx_free {C c : Int} {X : Int → Int} (h3 : C ≤ 3) (hi : Inj C X) (c0 : -5 ≤ c) (c1 : c ≤ 5) : ∃ i, i ≤ 3 ∧ ∀ k, 0 ≤ k → k < C → X k ≠ nxi i c := by
  refine Classical.byContradiction fun hno => ?_
  have hh : ∀ i, i ≤ 3 → ∃ k, 0 ≤ k ∧ k < C ∧ X k = nxi i c := fun i h => by
    refine Classical.byContradiction fun w => hno ⟨i, h, fun k k0 k1 e => w ⟨k, k0, k1, e⟩⟩
  obtain ⟨a, a0, a1, ea⟩ := hh 0 (by omega)
  obtain ⟨b, b0, b1, eb⟩ := hh 1 (by omega)
  obtain ⟨d, d0, d1, ed⟩ := hh 2 (by omega)
  obtain ⟨f, f0, f1, ef⟩ := hh 3 (by omega)
  have ea : X a = c := ea
  have eb : X b = nx5 c := eb
  have ed : X d = nx5 (nx5 c) := ed
  have ef : X f = nx5 (nx5 (nx5 c)) := ef
  have s1 := nx5_c c
  have s2 := nx5_c (nx5 c)
  have s3 := nx5_c (nx5 (nx5 c))
  have n1 : nx5 c ≠ c := by omega
  have n2 : nx5 (nx5 c) ≠ c ∧ nx5 (nx5 c) ≠ nx5 c := by omega
  have n3 : nx5 (nx5 (nx5 c)) ≠ c ∧ nx5 (nx5 (nx5 c)) ≠ nx5 c ∧ nx5 (nx5 (nx5 c)) ≠ nx5 (nx5 c) := by omega
  have q1 : b ≠ a := fun w => by
    rw [w] at eb
    omega
  have q2 : d ≠ a := fun w => by
    rw [w] at ed
    omega
  have q3 : d ≠ b := fun w => by
    rw [w] at ed
    omega
  have q4 : f ≠ a := fun w => by
    rw [w] at ef
    omega
  have q5 : f ≠ b := fun w => by
    rw [w] at ef
    omega
  have q6 : f ≠ d := fun w => by
    rw [w] at ef
    omega
  omega
