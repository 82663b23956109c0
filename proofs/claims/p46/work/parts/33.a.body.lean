/-! The law's body, over what is to be shown of the class (by program). -/
def LawP (ps : List (Int × Int × Int)) (N : Int) (xs ys ws : Nat → Int32) : Prop := ∃ (FI : Nat → S6 → Prop) (J1 J2 : S6 → Prop) (M : Nat),
  ((txs ps ++ litL 10).length ≤ 20 * M ∧ 20 * M < (txs ps ++ litL 10).length + 20) ∧ FI 0 σ60 ∧
  (∀ i σ, FI i σ → 20 * i < (txs ps ++ litL 10).length → ∃ r σ', s6_feed σ (nI (fwN (txs ps ++ litL 10) (20 * i))) (nI (fwN (txs ps ++ litL 10) (20 * i + 4))) (nI (fwN (txs ps ++ litL 10) (20 * i + 8))) (nI (fwN (txs ps ++ litL 10) (20 * i + 12))) (nI (fwN (txs ps ++ litL 10) (20 * i + 16))) = some (r, σ') ∧ FI (i + 1) σ') ∧
  (∀ σ, FI M σ → ∃ σ', s6_load σ (nI (txs ps ++ litL 10).length) = some (0, z3 N, σ') ∧ J1 σ') ∧
  (∀ σ, J1 σ → ∃ σ', s6_errorKind σ = some (0, σ') ∧ J1 σ') ∧ (∀ σ, J1 σ → ∃ σ', s6_mode σ = some (0, σ') ∧ J1 σ') ∧
  ((∀ σ, J1 σ → ∃ σ', s6_missed σ = some (0, σ') ∧ J1 σ') ∧ (∀ σ, J1 σ → ∃ σ', s6_many σ 0 = some (25, σ') ∧ J1 σ') ∧ (∀ σ, J1 σ → ∃ σ', s6_hiddenPoles σ = some (0, σ') ∧ J1 σ') ∧ (∀ σ, J1 σ → ∃ σ', s6_degreeOf σ 1 = some (0, σ') ∧ J1 σ') ∧ (∀ σ, J1 σ → ∃ r σ', s6_degreeOf σ 0 = some (r, σ') ∧ ¬ z3 N ≤ r ∧ J1 σ') ∧ (∀ σ, J1 σ → ∃ r σ', s6_isAlternating σ = some (r, σ') ∧ r ≠ 0 ∧ J1 σ') ∧
  (∀ (j : Int) (k : Int32), -12 ≤ j → j ≤ 12 → k = 0 ∨ k = 1 → ∃ v, (∀ σ, J1 σ → ∃ σ', s6_value σ (z3 j) k = some (0, v, σ') ∧ J1 σ') ∧ (∀ σ, J1 σ → ∃ σ', s6_plainValue σ (z3 j) k = some (0, v, σ') ∧ J1 σ')) ∧ (∀ (j : Int) σ, -12 ≤ j → j ≤ 12 → J1 σ → ∃ r σ', sL_isByNewton (z3 N) xs σ (z3 j) = some (r, σ') ∧ r ≠ 0 ∧ J1 σ')) ∧
  (∀ σ, J1 σ → ∃ σ', s6_setMode σ 2 0 = some (0, 0, σ') ∧ J2 σ') ∧
  (∀ σ, J2 σ → ∃ r σ', sL_areInProportion (z3 N) ws σ = some (r, σ') ∧ r ≠ 0 ∧ J2 σ') ∧
  (∀ (j : Int) σ, -4 ≤ j → j ≤ 4 → J2 σ → ∃ r σ', sL_isSum (z3 N) xs ys σ (z3 j) = some (r, σ') ∧ r ≠ 0 ∧ J2 σ') ∧
  (∀ σ, J2 σ → ∃ v σ', s6_weight σ 5 = some (1, v, σ') ∧ J2 σ') ∧ (∀ σ, J2 σ → ∃ v σ', s6_kindAt σ 13 = some (2, v, σ') ∧ J2 σ')
theorem dcN128 {v : Int} (h0 : -99 ≤ v) (h1 : v ≤ 99) : ∀ c ∈ dcN v, c < 128 := by
  have hg : ∀ k : Nat, k ≤ 99 → ∀ c ∈ dgN k, c < 128 := by
    intro k hk c hc
    unfold dgN at hc
    split at hc
    · have := List.mem_singleton.mp hc
      omega
    · rcases List.mem_cons.mp hc with h | h
      · omega
      · have := List.mem_singleton.mp h
        omega
  intro c hc
  unfold dcN at hc
  split at hc
  · rcases List.mem_cons.mp hc with h | h
    · omega
    · exact hg _ (by omega) c h
  · exact hg _ (by omega) c hc
theorem litL128 : ∀ i, i < 13 → ∀ c ∈ litL i, c < 128 := by decide +kernel
theorem txs128 {k : Int} {ps : List (Int × Int × Int)} (h : PSk k ps) : ∀ c ∈ txs ps ++ litL 10, c < 128 := by
  intro c hc
  rcases List.mem_append.mp hc with hc | hc
  · unfold txs at hc
    obtain ⟨l, hl, hcl⟩ := List.mem_flatten.mp hc
    obtain ⟨q, hq, rfl⟩ := List.mem_map.mp hl
    obtain ⟨⟨x0, x1⟩, ⟨y0, y1⟩, ⟨w0, w1⟩⟩ := h.2.2.2.2.2.2.1 q hq
    unfold stm at hcl
    rcases List.mem_append.mp hcl with z | z
    · exact litL128 6 (by decide) c z
    rcases List.mem_append.mp z with z | z
    · exact dcN128 (by omega) (by omega) c z
    rcases List.mem_append.mp z with z | z
    · exact litL128 7 (by decide) c z
    rcases List.mem_append.mp z with z | z
    · exact dcN128 (by omega) (by omega) c z
    rcases List.mem_append.mp z with z | z
    · exact litL128 8 (by decide) c z
    rcases List.mem_append.mp z with z | z
    · exact dcN128 (by omega) (by omega) c z
    · exact litL128 9 (by decide) c z
  · exact litL128 10 (by decide) c hc
theorem gcomm {D : va_G} {A : Nat → Prop} {u v : va_W} {H : Heap} (hP : va_P D vwCl (u ++ v) H) (hD : va_D A (u ++ v)) : va_P D vwCl (v ++ u) H ∧ va_D A (v ++ u) := by
  have hp : (u ++ v).Perm (v ++ u) := List.perm_append_comm
  exact gsub (fun q hq => hp.mem_iff.mpr hq) (fun h => (hp.map _).nodup_iff.mp h) hP hD
theorem mrg_no : ∀ (A : va_W), mrgB (List.replicate A.length false) A [] [] A := by
  intro A
  induction A with
  | nil => exact trivial
  | cons q A ih => exact mrgF rfl ih
section LBD
variable {p : Program} {l : Launch} {e : Env} {R : Room} {s : State} {m : MethodId} {args : Array Value} {below : List Frame} {meth : Method} {c : Code} {H : Heap} {locs : List Loc} {cells slots : Nat} {Q : State → Prop}
variable {D : va_G} {g : Nat → ClassId} {x : Xd} {A : Nat → Prop} {ret0 : Option FieldType} {pc : Nat} {ls : Array Slot}
theorem gcallS0 {own : String} {cc : ByteArray} {nL : Nat} {rest : List Value} (X : Cx p s m args meth c own cc nL ret0 D g x A) {y : MethodName} {cy : ByteArray} {nLy fry loy mcy msy n idx : Nat} {rety : Option FieldType} {As st0 : List Value} {wr wc : va_W} {post : Option Value → va_W → Prop}
    (hC : CnG D g x l y cy nLy rety fry loy mcy msy As wc post) (hM : MwS y cy nLy rety n) (hlink : Cond.methodLink own idx y ∈ wG) (hR : fry + 1 ≤ R.frames ∧ 8 + (nLy + 11) + loy ≤ R.locals)
    (hP : va_P D vwCl (wr ++ wc) H) (hD : va_D A (wr ++ wc)) (hS : va_S A s.heap H locs)
    (hn : As.length = n) (hls : ls.size = nL) (hst : st0 = As.reverse ++ rest) (hrm : (rest.map fun v => v.category).sum ≤ 8) (hdg : decode cc pc = .ok (.invokestatic idx, 3)) (hcs : cells + mcy ≤ R.cells ∧ slots + msy ≤ R.slots)
    (kk : ∀ (r : Option Value) (w1 : va_W) (H1 : Heap) (locs1 : List Loc), post r w1 → va_P D vwCl (wr ++ w1) H1 → va_D A (wr ++ w1) → va_S A s.heap H1 locs1 → W p l e R s m args below meth c H1 locs1 (cells + mcy) (slots + msy) Q (F0 m (pc + 3) ls (r.toList ++ rest))) : W p l e R s m args below meth c H locs cells slots Q (F0 m pc ls st0) := by
  obtain ⟨hx, hb, hml, -, -, hown, hts, hK, hA, hE⟩ := X
  have hCB : CallB R s args own idx y cy nLy rety (mws y cy nLy rety) (rmC fry loy mcy msy) mcy msy n ∧ (Cond.static y).before args s = true := by
    refine ⟨⟨rfl, rfl, hR.1, hR.2, pay_in hts (mws_good hM.2.2.1), List.mem_cons_self, hts _ hM.2.2.1, hts _ hM.2.1, ⟨hM.2.2.2.1, hM.2.2.2.2.1⟩, gsig hM.2.2.2.2.2, hts _ hlink⟩, hts _ hM.1⟩
  exact gbehind (a := args) (va_runS (As := As) (rest := rest) (n := n) ⟨hx, hb, hml, hown, hts⟩ (hC H.size) hCB (gpre hE hK hA hP hD hS As) rfl hn hls hst (lv_room hrm) hdg hcs) hA hP hD hS kk
end LBD
section LBW
variable {p : Program} {l : Launch} {e : Env} {s : State} {m : MethodId} {args : Array Value} {below : List Frame} {meth : Method} {c : Code} {Q : State → Prop}
variable {D : va_G} {g : Nat → ClassId} {x : Xd} {A : Nat → Prop} {ret0 : Option FieldType} {ls : Array Slot}
set_option maxHeartbeats 8000000 in
set_option maxRecDepth 100000 in
theorem law_body (HP : ∀ (ps : List (Int × Int × Int)) (N : Int) (xs ys ws : Nat → Int32), 1 ≤ N → N ≤ 4 → PSk N ps → En 0 N xs (zX (azs ps)) → En 0 N ys (zY (azs ps)) → En 0 N ws (zW (azs ps)) → LawP ps N xs ys ws) (HN : ∃ σ1 v σ2, s6_many σ60 3 = some (25, σ1) ∧ s6_value σ1 0 0 = some (4, v, σ2)) (hl0 : l.stackTraces = false) (X : Cx p s m args meth c RL cL_law 4 ret0 D g x A) (hP : va_P D vwCl [] s.heap) (hD : va_D A []) (hS : va_S A s.heap s.heap []) (hl : lv_has ls 4 [(0, .ref x.2.2.1)])
    (kk : ∀ (H : Heap) (locs : List Loc) (ls : Array Slot) (cells slots : Nat), cells ≤ 600086 → slots ≤ 7301442 → va_S A s.heap H locs → W p l e room_1 s m args below meth c H locs cells slots Q (F0 m 132 ls [.int 1])) : W p l e room_1 s m args below meth c s.heap [] 0 0 Q (F0 m 0 ls []) := by
  obtain ⟨hx, hb, hml, -, -, hown, hts, hK, hA, hE⟩ := id X
  refine cnewO X (ws := []) nw_L_8 hP hD hS (Nat.le_of_ble_eq_true rfl) (Nat.le_of_ble_eq_true rfl) dL_law_0 (fun o H hP hD hS => ?_)
  have hP : va_P D vwCl ([] ++ [(o, .inr (9, [.null, .int 0, .int 0, .null, .null, .null]))]) H := hP
  have hD : va_D A ([] ++ [(o, .inr (9, [.null, .int 0, .int 0, .null, .null, .null]))]) := hD
  refine lv_dup hx hb dL_law_3 rfl ?_
  refine gcallI0 X (As := []) (rest := [.ref o]) (wr := []) (kL_init D g x l o) mw_L_init ml_L_123 ⟨(Nat.le_of_ble_eq_true rfl), (Nat.le_of_ble_eq_true rfl)⟩ hP hD hS rfl hl.1 rfl (Nat.le_of_ble_eq_true rfl) dL_law_4 ⟨(Nat.le_of_ble_eq_true rfl), (Nat.le_of_ble_eq_true rfl)⟩ (fun v w1 H locs hp hP hD hS => ?_)
  obtain ⟨rfl, ch, xa, ya, wa, rfl⟩ := hp
  have hP : va_P D vwCl (lW g o ch xa ya wa 0 0 (fun _ => 0) (fun _ => 0) (fun _ => 0)) H := hP
  have hD : va_D A (lW g o ch xa ya wa 0 0 (fun _ => 0) (fun _ => 0) (fun _ => 0)) := hD
  refine lv_astore_n (lv' := [(1, .ref o), (0, .ref x.2.2.1)]) hx hb dL_law_7 rfl hl (by decide) rfl (fun ls hl => ?_)
  refine lv_aload_n hx hb dL_law_8 rfl (lv_at hl 0 rfl) ?_
  refine lv_aload_n hx hb dL_law_9 rfl (lv_at hl 1 rfl) ?_
  refine gputR X fl_L_7 (ws1 := lW g o x.2.2.1 xa ya wa (nI 0) 0 (fun _ => 0) (fun _ => 0) (fun _ => 0)) hP hD hS 0 rfl rfl ⟨_, rfl, .array .int, by decide +kernel, rfl, rfl⟩ dL_law_10 rfl (fun H locs hP hD hS => ?_)
  refine newX6 X (lW g o x.2.2.1 xa ya wa (nI 0) 0 (fun _ => 0) (fun _ => 0) (fun _ => 0)) ⟨(Nat.le_of_ble_eq_true rfl), (Nat.le_of_ble_eq_true rfl)⟩ hP hD hS hl.1 (Nat.le_of_ble_eq_true rfl) ⟨(Nat.le_of_ble_eq_true rfl), (Nat.le_of_ble_eq_true rfl)⟩ dL_law_13 dL_law_16 dL_law_17 (fun a e9 H locs hP hD hS => ?_)
  refine lv_astore_n (lv' := [(2, .ref (a 0)), (1, .ref o), (0, .ref x.2.2.1)]) hx hb dL_law_20 rfl hl (by decide) rfl (fun ls hl => ?_)
  obtain ⟨hP, hD⟩ := gcomm hP hD
  refine lv_aload_n hx hb dL_law_21 rfl (lv_at hl 0 rfl) ?_
  refine lv_aload_n hx hb dL_law_22 rfl (lv_at hl 1 rfl) ?_
  refine lv_iconst (v := 0) hx hb dL_law_23 (by decide) ?_
  refine lv_iconst (v := 4) hx hb dL_law_24 (by decide) ?_
  refine lv_iconst (v := 5) hx hb dL_law_25 (by decide) ?_
  refine gcallV0 X (As := [.int 0, .int 4, .int 5]) (rest := [.ref (a 0)]) (wr := w6 g a e9 σ60) (kL_text D g x l o xa ya wa 0 (fun _ => 0) (fun _ => 0) (fun _ => 0)) mw_L_text ml_L_125 ⟨(Nat.le_of_ble_eq_true rfl), (Nat.le_of_ble_eq_true rfl)⟩ hP hD hS rfl rfl rfl hl.1 rfl (Nat.le_of_ble_eq_true rfl) dL_law_26 ⟨(Nat.le_of_ble_eq_true rfl), (Nat.le_of_ble_eq_true rfl)⟩ (fun v w1 H locs hp hP hD hS => ?_)
  obtain ⟨ps, N, j, ta, tb, f, xs, ys, ws, rfl, rfl, N1, N4, hps, ex, ey, ew, hTx⟩ := hp
  obtain ⟨FI, J1, J2, M, hM, hF0, hfeed, hload, hek, hmode, ⟨p1, p2, p3, p4, p5, p6, p7, p8⟩, hset, hprop, hsum, hwt, hkd⟩ := HP ps N xs ys ws N1 N4 hps ex ey ew
  obtain ⟨hP, hD⟩ := gcomm hP hD
  have hP : va_P D vwCl (lW g o x.2.2.1 xa ya wa (nI j) (z3 N) xs ys ws ++ (stW g ta tb (txs ps ++ litL 10).length f ++ w6 g a e9 σ60)) H := hP
  have hD : va_D A (lW g o x.2.2.1 xa ya wa (nI j) (z3 N) xs ys ws ++ (stW g ta tb (txs ps ++ litL 10).length f ++ w6 g a e9 σ60)) := hD
  have hlen : (txs ps ++ litL 10).length < 380 := by
    have h8 := hps.2.2.2.2.2.2.2.1
    have l9 : (litL 10).length = 6 := rfl
    rw [List.length_append]
    omega
  refine gcallS0 X (As := [.ref (a 0), .ref ta]) (rest := []) (wr := lW g o x.2.2.1 xa ya wa (nI j) (z3 N) xs ys ws) (kL_load D g x l ta tb (txs ps ++ litL 10) f hTx (txs128 hps) hlen a e9 FI J1 (z3 N) M hM hfeed hload σ60 hF0) mw_L_load ml_L_129 ⟨(Nat.le_of_ble_eq_true rfl), (Nat.le_of_ble_eq_true rfl)⟩ hP hD hS rfl hl.1 rfl (Nat.le_of_ble_eq_true rfl) dL_law_29 ⟨(Nat.le_of_ble_eq_true rfl), (Nat.le_of_ble_eq_true rfl)⟩ (fun v w1 H locs hp hP hD hS => ?_)
  obtain ⟨rfl, σ1, j1, rfl⟩ := hp
  obtain ⟨hP, hD⟩ := gdropM hP hD
  refine lv_aload_n hx hb dL_law_32 rfl (lv_at hl 1 rfl) ?_
  refine mget X fl_L_64 hP 0 rfl rfl dL_law_33 ?_
  refine lv_icmp_ne (tgt := 61) hx hb dL_law_36 (by decide) (fun b => absurd rfl b) (fun _ => ?_)
  refine lv_aload_n hx hb dL_law_39 rfl (lv_at hl 0 rfl) ?_
  obtain ⟨σ2, eσ2, j2⟩ := hek σ1 j1
  refine c6 X (lW g o x.2.2.1 xa ya wa (nI j) (z3 N) xs ys ws) (As := []) (rest := []) (st1 := [.int 0]) (K6_errorKind D g x l a e9 σ1  _ eσ2) mw_X6_errorKind ml_L_132 rfl ⟨(Nat.le_of_ble_eq_true rfl), (Nat.le_of_ble_eq_true rfl)⟩ hP hD hS rfl hl.1 rfl (Nat.le_of_ble_eq_true rfl) dL_law_40 ⟨(Nat.le_of_ble_eq_true rfl), (Nat.le_of_ble_eq_true rfl)⟩ rfl (fun H locs hP hD hS => ?_)
  refine lv_if_ne (tgt := 61) hx hb dL_law_43 (by decide) (fun b => absurd rfl b) (fun _ => ?_)
  refine lv_aload_n hx hb dL_law_46 rfl (lv_at hl 0 rfl) ?_
  obtain ⟨σ3, eσ3, j3⟩ := hmode σ2 j2
  refine c6 X (lW g o x.2.2.1 xa ya wa (nI j) (z3 N) xs ys ws) (As := []) (rest := []) (st1 := [.int 0]) (K6_mode D g x l a e9 σ2  _ eσ3) mw_X6_mode ml_L_101 rfl ⟨(Nat.le_of_ble_eq_true rfl), (Nat.le_of_ble_eq_true rfl)⟩ hP hD hS rfl hl.1 rfl (Nat.le_of_ble_eq_true rfl) dL_law_47 ⟨(Nat.le_of_ble_eq_true rfl), (Nat.le_of_ble_eq_true rfl)⟩ rfl (fun H locs hP hD hS => ?_)
  refine lv_if_ne (tgt := 61) hx hb dL_law_50 (by decide) (fun b => absurd rfl b) (fun _ => ?_)
  refine lv_aload_n hx hb dL_law_53 rfl (lv_at hl 1 rfl) ?_
  refine lv_aload_n hx hb dL_law_54 rfl (lv_at hl 0 rfl) ?_
  refine gcallV0 X (As := [.ref (a 0)]) (rest := []) (wr := []) (kP_isPlain D g x l o x.2.2.1 xa ya wa (nI j) (z3 N) xs ys ws a e9 J1 p1 p2 p3 p4 p5 p6 p7 p8 σ3 j3) mw_L_isPlain ml_L_135 ⟨(Nat.le_of_ble_eq_true rfl), (Nat.le_of_ble_eq_true rfl)⟩ hP hD hS rfl rfl rfl hl.1 rfl (Nat.le_of_ble_eq_true rfl) dL_law_55 ⟨(Nat.le_of_ble_eq_true rfl), (Nat.le_of_ble_eq_true rfl)⟩ (fun v w1 H locs hp hP hD hS => ?_)
  obtain ⟨rfl, σ4, j4, rfl⟩ := hp
  have hP : va_P D vwCl (lW g o x.2.2.1 xa ya wa (nI j) (z3 N) xs ys ws ++ w6 g a e9 σ4) H := hP
  have hD : va_D A (lW g o x.2.2.1 xa ya wa (nI j) (z3 N) xs ys ws ++ w6 g a e9 σ4) := hD
  refine lv_if_ne (tgt := 63) hx hb dL_law_58 (by decide) (fun _ => ?_) (fun b => absurd b (by decide))
  refine lv_aload_n hx hb dL_law_63 rfl (lv_at hl 0 rfl) ?_
  refine lv_iconst (v := 2) hx hb dL_law_64 (by decide) ?_
  refine lv_iconst (v := 0) hx hb dL_law_65 (by decide) ?_
  obtain ⟨σ5, eσ5, j5⟩ := hset σ4 j4
  refine c6 X (lW g o x.2.2.1 xa ya wa (nI j) (z3 N) xs ys ws) (As := [.int 2, .int 0]) (rest := []) (st1 := [.int 0]) (N6_setMode D g x l a e9 σ4 (2) (0) _ eσ5 rfl) mw_X6_setMode ml_L_139 rfl ⟨(Nat.le_of_ble_eq_true rfl), (Nat.le_of_ble_eq_true rfl)⟩ hP hD hS rfl hl.1 rfl (Nat.le_of_ble_eq_true rfl) dL_law_66 ⟨(Nat.le_of_ble_eq_true rfl), (Nat.le_of_ble_eq_true rfl)⟩ rfl (fun H locs hP hD hS => ?_)
  refine lv_if_ne (tgt := 80) hx hb dL_law_69 (by decide) (fun b => absurd rfl b) (fun _ => ?_)
  refine lv_aload_n hx hb dL_law_72 rfl (lv_at hl 1 rfl) ?_
  refine lv_aload_n hx hb dL_law_73 rfl (lv_at hl 0 rfl) ?_
  obtain ⟨r6, σ6, e6, n6, j6⟩ := hprop σ5 j5
  refine mcallA X (As := [.ref (a 0)]) (rest := []) (st1 := [.int r6]) (KL_areInProportion D g x l o x.2.2.1 xa ya wa (nI j) (z3 N) xs ys ws a e9 σ5 _ e6) mw_L_areInProportion ml_L_142 ⟨(Nat.le_of_ble_eq_true rfl), (Nat.le_of_ble_eq_true rfl)⟩ hP hD hS (adr_app g _ a e9 σ5 σ6) 0 rfl rfl rfl hl.1 rfl (Nat.le_of_ble_eq_true rfl) dL_law_74 ⟨(Nat.le_of_ble_eq_true rfl), (Nat.le_of_ble_eq_true rfl)⟩ rfl (fun H locs hP hD hS => ?_)
  refine lv_if_ne (tgt := 82) hx hb dL_law_77 (by decide) (fun _ => ?_) (fun b => absurd b n6)
  refine lv_bipush (v := z3 (-4)) hx hb dL_law_82 (by decide +kernel) ?_
  refine lv_istore_n (lv' := [(3, .int (z3 (-4))), (2, .ref (a 0)), (1, .ref o), (0, .ref x.2.2.1)]) hx hb dL_law_84 rfl hl (by decide) rfl (fun ls hl => ?_)
  have AFT : ∀ (σ : S6) (H : Heap) (locs : List Loc) (ls : Array Slot), J2 σ → va_P D vwCl (lW g o x.2.2.1 xa ya wa (nI j) (z3 N) xs ys ws ++ w6 g a e9 σ) H → va_D A (lW g o x.2.2.1 xa ya wa (nI j) (z3 N) xs ys ws ++ w6 g a e9 σ) → va_S A s.heap H locs → lv_has ls 4 [(3, .int (z3 5)), (2, .ref (a 0)), (1, .ref o), (0, .ref x.2.2.1)] → W p l e room_1 s m args below meth c H locs (0 + 1 + 4 + 71 + 60 + 0 + 0) (0 + 6 + 15 + 1079 + 41000 + 0 + 0) Q (F0 m 107 ls []) := by
    intro σ H locs ls jσ hP hD hS hl
    obtain ⟨v7, σ7, e7, j7⟩ := hwt σ jσ
    refine lv_aload_n hx hb dL_law_107 rfl (lv_at hl 1 rfl) ?_
    refine hcallA X (As := [.ref (a 0)]) (rest := []) (st1 := [.int 1]) ((H_isNoPoint D g x l hl0 a e9 σ σ7 v7 e7).ext _ (mrg_left (lW g o x.2.2.1 xa ya wa (nI j) (z3 N) xs ys ws) (mrg_all _ _ (w6_adr g a e9 σ σ7)))) mh_isNoPoint ml_L_149 ⟨(Nat.le_of_ble_eq_true rfl), (Nat.le_of_ble_eq_true rfl)⟩ hP hD hS (adr_app g _ a e9 σ σ7) rfl hl.1 rfl (Nat.le_of_ble_eq_true rfl) dL_law_108 ⟨(Nat.le_of_ble_eq_true rfl), (Nat.le_of_ble_eq_true rfl)⟩ rfl (fun H locs hP hD hS => ?_)
    refine lv_if_eq (tgt := 131) hx hb dL_law_111 (by decide) (fun b => absurd b (by decide)) (fun _ => ?_)
    obtain ⟨v8, σ8, e8, j8⟩ := hkd σ7 j7
    refine lv_aload_n hx hb dL_law_114 rfl (lv_at hl 1 rfl) ?_
    refine hcallA X (As := [.ref (a 0)]) (rest := []) (st1 := [.int 1]) ((H_isBad D g x l hl0 a e9 σ7 σ8 v8 e8).ext _ (mrg_left (lW g o x.2.2.1 xa ya wa (nI j) (z3 N) xs ys ws) (mrg_all _ _ (w6_adr g a e9 σ7 σ8)))) mh_isBad ml_L_152 ⟨(Nat.le_of_ble_eq_true rfl), (Nat.le_of_ble_eq_true rfl)⟩ hP hD hS (adr_app g _ a e9 σ7 σ8) rfl hl.1 rfl (Nat.le_of_ble_eq_true rfl) dL_law_115 ⟨(Nat.le_of_ble_eq_true rfl), (Nat.le_of_ble_eq_true rfl)⟩ rfl (fun H locs hP hD hS => ?_)
    refine lv_if_eq (tgt := 131) hx hb dL_law_118 (by decide) (fun b => absurd b (by decide)) (fun _ => ?_)
    obtain ⟨σ9, v9, σ10, e9a, e9b⟩ := HN
    refine hcallA X (As := []) (rest := []) (st1 := [.int 1]) ((H_isNone D g x l hl0 σ9 σ10 v9 e9a e9b).ext _ (mrg_no (lW g o x.2.2.1 xa ya wa (nI j) (z3 N) xs ys ws ++ w6 g a e9 σ8))) mh_isNone ml_L_155 ⟨(Nat.le_of_ble_eq_true rfl), (Nat.le_of_ble_eq_true rfl)⟩ hP hD hS rfl rfl hl.1 rfl (Nat.le_of_ble_eq_true rfl) dL_law_121 ⟨(Nat.le_of_ble_eq_true rfl), (Nat.le_of_ble_eq_true rfl)⟩ rfl (fun H locs hP hD hS => ?_)
    refine lv_if_eq (tgt := 131) hx hb dL_law_124 (by decide) (fun b => absurd b (by decide)) (fun _ => ?_)
    refine lv_iconst (v := 1) hx hb dL_law_127 (by decide) ?_
    refine lv_goto (tgt := 132) hx hb dL_law_128 (by decide) ?_
    exact kk H _ ls _ _ (Nat.le_of_ble_eq_true rfl) (Nat.le_of_ble_eq_true rfl) hS
  have LOOP : ∀ (k : Nat) (i : Int) (σ : S6) (H : Heap) (locs : List Loc) (ls : Array Slot), i + k = 5 → -4 ≤ i → J2 σ → va_P D vwCl (lW g o x.2.2.1 xa ya wa (nI j) (z3 N) xs ys ws ++ w6 g a e9 σ) H → va_D A (lW g o x.2.2.1 xa ya wa (nI j) (z3 N) xs ys ws ++ w6 g a e9 σ) → va_S A s.heap H locs → lv_has ls 4 [(3, .int (z3 i)), (2, .ref (a 0)), (1, .ref o), (0, .ref x.2.2.1)] → W p l e room_1 s m args below meth c H locs (0 + 1 + 4 + 71 + 60 + 0 + 0) (0 + 6 + 15 + 1079 + 41000 + 0 + 0) Q (F0 m 85 ls []) := by
    intro k
    induction k with
    | zero =>
      intro i σ H locs ls hk hi jσ hP hD hS hl
      have i5 : i = 5 := by omega
      subst i5
      refine lv_iload_n hx hb dL_law_85 rfl (lv_at hl 0 rfl) ?_
      refine lv_iconst (v := 4) hx hb dL_law_86 (by decide) ?_
      refine lv_icmp_gt (tgt := 107) hx hb dL_law_87 (by decide) (fun _ => ?_) (fun b => absurd (show (4 : Int32) < z3 5 by decide) b)
      exact AFT σ H locs ls jσ hP hD hS hl
    | succ k ih =>
      intro i σ H locs ls hk hi jσ hP hD hS hl
      refine lv_iload_n hx hb dL_law_85 rfl (lv_at hl 0 rfl) ?_
      refine lv_iconst (v := 4) hx hb dL_law_86 (by decide) ?_
      refine lv_icmp_gt (tgt := 107) hx hb dL_law_87 (by decide) (fun b => absurd ((z3lt (a := 4) (by omega) (by omega) (by omega) (by omega)).1 b) (show ¬ 4 < i by omega)) (fun _ => ?_)
      refine lv_aload_n hx hb dL_law_90 rfl (lv_at hl 2 rfl) ?_
      refine lv_aload_n hx hb dL_law_91 rfl (lv_at hl 1 rfl) ?_
      refine lv_iload_n hx hb dL_law_92 rfl (lv_at hl 0 rfl) ?_
      obtain ⟨r7, σ7, e7, n7, j7⟩ := hsum i σ hi (by omega) jσ
      refine mcallA X (As := [.ref (a 0), .int (z3 i)]) (rest := []) (st1 := [.int r7]) (KL_isSum D g x l o x.2.2.1 xa ya wa (nI j) (z3 N) xs ys ws a e9 σ (z3 i) _ e7) mw_L_isSum ml_L_145 ⟨(Nat.le_of_ble_eq_true rfl), (Nat.le_of_ble_eq_true rfl)⟩ hP hD hS (adr_app g _ a e9 σ σ7) 0 rfl rfl rfl hl.1 rfl (Nat.le_of_ble_eq_true rfl) dL_law_93 ⟨(Nat.le_of_ble_eq_true rfl), (Nat.le_of_ble_eq_true rfl)⟩ rfl (fun H locs hP hD hS => ?_)
      refine lv_if_ne (tgt := 101) hx hb dL_law_96 (by decide) (fun _ => ?_) (fun b => absurd b n7)
      refine lv_iinc (v := z3 (i + 1)) (lv' := [(3, .int (z3 (i + 1))), (2, .ref (a 0)), (1, .ref o), (0, .ref x.2.2.1)]) hx hb dL_law_101 hl (k := 0) rfl (show z3 i + 1 = z3 (i + 1) by rw [l3_1, z3a]) (by decide) rfl (fun ls hl => ?_)
      refine lv_goto (tgt := 85) hx hb dL_law_104 (by decide) ?_
      exact ih (i + 1) σ7 H locs ls (by omega) (by omega) j7 hP hD hS hl
  exact LOOP 9 (-4) σ6 H _ ls (by omega) (by omega) j6 hP hD hS hl
end LBW
