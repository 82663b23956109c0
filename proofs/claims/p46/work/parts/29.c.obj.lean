/-! a new object of the class, in the whole world's order (by program) -/
def σ60 : S6 := (0, 1, 0, 1, 0, (fun _ => 0), (fun _ => 0), (fun _ => 0), (fun _ _ => 0), (fun _ _ => 0), (fun _ _ => 0), 0, (fun _ => 0), (fun _ => 0), 0, 0, 0, (fun _ => 0), (fun _ => 0), (fun _ => 0), (fun _ => 0), (fun _ => 0), (fun _ => 0), (fun _ => 0), (fun _ => 0), 0, 0, 5, 0, 0, 0, ((-1)), (fun _ => 0), (fun _ => 0), 0, 0, 0, (fun _ => 0), (fun _ => 0), (fun _ => 0), (fun _ => 0), (fun _ => 0), (fun _ => 0), (fun _ => 0), (fun _ => 0))
def pk9 (ws : va_W) : List Nat → va_W → Prop
  | [], [] => True
  | i :: is, q :: qs => ws[i]? = some q ∧ pk9 ws is qs
  | _, _ => False
theorem pk9_map {ws : va_W} : ∀ (is : List Nat) (qs : va_W), pk9 ws is qs → is.map (fun i => ws[i]?) = qs.map some
  | [], [], _ => rfl
  | i :: is, q :: qs, h => by
    rw [List.map_cons, List.map_cons, h.1, pk9_map is qs h.2]
  | [], _ :: _, h => False.elim h
  | _ :: _, [], h => False.elim h
theorem pk9_mem {ws : va_W} : ∀ (is : List Nat) (qs : va_W), pk9 ws is qs → ∀ q ∈ qs, q ∈ ws
  | [], [], _ => fun q h => nomatch h
  | i :: is, q :: qs, h => fun r hr => by
    rcases List.mem_cons.mp hr with rfl | hr
    · exact List.mem_of_getElem? h.1
    · exact pk9_mem is qs h.2 r hr
  | [], _ :: _, h => False.elim h
  | _ :: _, [], h => False.elim h
theorem pk9_P {D : va_G} {ws qs : va_W} {H : Heap} {is : List Nat} (h : pk9 ws is qs) (hP : va_P D vwCl ws H) : va_P D vwCl qs H := P_mem.mpr fun q hq => P_mem.mp hP q (pk9_mem is qs h q hq)
def a60 (b q1 q2 q3 q4 q5 q6 q7 q8 q9 q10 q11 q12 q13 q14 q15 q16 q17 q18 q19 q20 q21 q22 q23 q24 q25 q26 q27 q28 q29 q30 q31 q32 q33 q34 q35 q36 q37 q38 q39 q40 q41 q42 q43 q44 q45 q46 q47 q48 q49 q50 q51 q52 q53 q54 q55 q56 q57 q58 q59 q60 q61 q62 q63 q64 q65 q66 q67 q68 q69 q70 : Nat) : Nat → Nat := fun i => ([b, q69, q70, q25, q26, q67, q68, q3, q12, q4, q7, q5, q6, q11, q8, q13, q9, q10, q1, q2, q14, q23, q15, q18, q16, q17, q22, q19, q24, q20, q21] : List Nat).getD i 0
def e60 (b q1 q2 q3 q4 q5 q6 q7 q8 q9 q10 q11 q12 q13 q14 q15 q16 q17 q18 q19 q20 q21 q22 q23 q24 q25 q26 q27 q28 q29 q30 q31 q32 q33 q34 q35 q36 q37 q38 q39 q40 q41 q42 q43 q44 q45 q46 q47 q48 q49 q50 q51 q52 q53 q54 q55 q56 q57 q58 q59 q60 q61 q62 q63 q64 q65 q66 q67 q68 q69 q70 : Nat) : Nat → Nat → Nat := fun r => match r with
  | 0 => fun k => ([q27, q31, q35, q39, q43, q47, q51, q55, q59, q63] : List Nat).getD k 0
  | 1 => fun k => ([q30, q34, q38, q42, q46, q50, q54, q58, q62, q66] : List Nat).getD k 0
  | 2 => fun k => ([q28, q32, q36, q40, q44, q48, q52, q56, q60, q64] : List Nat).getD k 0
  | _ => fun k => ([q29, q33, q37, q41, q45, q49, q53, q57, q61, q65] : List Nat).getD k 0
set_option maxRecDepth 100000 in
set_option maxHeartbeats 4000000 in
theorem pk60 (g : Nat → ClassId) (b q1 q2 q3 q4 q5 q6 q7 q8 q9 q10 q11 q12 q13 q14 q15 q16 q17 q18 q19 q20 q21 q22 q23 q24 q25 q26 q27 q28 q29 q30 q31 q32 q33 q34 q35 q36 q37 q38 q39 q40 q41 q42 q43 q44 q45 q46 q47 q48 q49 q50 q51 q52 q53 q54 q55 q56 q57 q58 q59 q60 q61 q62 q63 q64 q65 q66 q67 q68 q69 q70 : Nat) : pk9 (wC_X6 g b q1 q2 q3 q4 q5 q6 q7 q8 q9 q10 q11 q12 q13 q14 q15 q16 q17 q18 q19 q20 q21 q22 q23 q24 q25 q26 q27 q28 q29 q30 q31 q32 q33 q34 q35 q36 q37 q38 q39 q40 q41 q42 q43 q44 q45 q46 q47 q48 q49 q50 q51 q52 q53 q54 q55 q56 q57 q58 q59 q60 q61 q62 q63 q64 q65 q66 q67 q68 q69 q70) [0, 69, 70, 25, 26, 27, 30, 28, 29, 31, 34, 32, 33, 35, 38, 36, 37, 39, 42, 40, 41, 43, 46, 44, 45, 47, 50, 48, 49, 51, 54, 52, 53, 55, 58, 56, 57, 59, 62, 60, 61, 63, 66, 64, 65, 67, 68, 3, 12, 4, 7, 5, 6, 11, 8, 13, 9, 10, 1, 2, 14, 23, 15, 18, 16, 17, 22, 19, 24, 20, 21] (w6 g (a60 b q1 q2 q3 q4 q5 q6 q7 q8 q9 q10 q11 q12 q13 q14 q15 q16 q17 q18 q19 q20 q21 q22 q23 q24 q25 q26 q27 q28 q29 q30 q31 q32 q33 q34 q35 q36 q37 q38 q39 q40 q41 q42 q43 q44 q45 q46 q47 q48 q49 q50 q51 q52 q53 q54 q55 q56 q57 q58 q59 q60 q61 q62 q63 q64 q65 q66 q67 q68 q69 q70) (e60 b q1 q2 q3 q4 q5 q6 q7 q8 q9 q10 q11 q12 q13 q14 q15 q16 q17 q18 q19 q20 q21 q22 q23 q24 q25 q26 q27 q28 q29 q30 q31 q32 q33 q34 q35 q36 q37 q38 q39 q40 q41 q42 q43 q44 q45 q46 q47 q48 q49 q50 q51 q52 q53 q54 q55 q56 q57 q58 q59 q60 q61 q62 q63 q64 q65 q66 q67 q68 q69 q70) σ60) := by
  refine ⟨rfl, ?_⟩
  refine ⟨rfl, ?_⟩
  refine ⟨rfl, ?_⟩
  refine ⟨rfl, ?_⟩
  refine ⟨rfl, ?_⟩
  refine ⟨rfl, ?_⟩
  refine ⟨rfl, ?_⟩
  refine ⟨rfl, ?_⟩
  refine ⟨rfl, ?_⟩
  refine ⟨rfl, ?_⟩
  refine ⟨rfl, ?_⟩
  refine ⟨rfl, ?_⟩
  refine ⟨rfl, ?_⟩
  refine ⟨rfl, ?_⟩
  refine ⟨rfl, ?_⟩
  refine ⟨rfl, ?_⟩
  refine ⟨rfl, ?_⟩
  refine ⟨rfl, ?_⟩
  refine ⟨rfl, ?_⟩
  refine ⟨rfl, ?_⟩
  refine ⟨rfl, ?_⟩
  refine ⟨rfl, ?_⟩
  refine ⟨rfl, ?_⟩
  refine ⟨rfl, ?_⟩
  refine ⟨rfl, ?_⟩
  refine ⟨rfl, ?_⟩
  refine ⟨rfl, ?_⟩
  refine ⟨rfl, ?_⟩
  refine ⟨rfl, ?_⟩
  refine ⟨rfl, ?_⟩
  refine ⟨rfl, ?_⟩
  refine ⟨rfl, ?_⟩
  refine ⟨rfl, ?_⟩
  refine ⟨rfl, ?_⟩
  refine ⟨rfl, ?_⟩
  refine ⟨rfl, ?_⟩
  refine ⟨rfl, ?_⟩
  refine ⟨rfl, ?_⟩
  refine ⟨rfl, ?_⟩
  refine ⟨rfl, ?_⟩
  refine ⟨rfl, ?_⟩
  refine ⟨rfl, ?_⟩
  refine ⟨rfl, ?_⟩
  refine ⟨rfl, ?_⟩
  refine ⟨rfl, ?_⟩
  refine ⟨rfl, ?_⟩
  refine ⟨rfl, ?_⟩
  refine ⟨rfl, ?_⟩
  refine ⟨rfl, ?_⟩
  refine ⟨rfl, ?_⟩
  refine ⟨rfl, ?_⟩
  refine ⟨rfl, ?_⟩
  refine ⟨rfl, ?_⟩
  refine ⟨rfl, ?_⟩
  refine ⟨rfl, ?_⟩
  refine ⟨rfl, ?_⟩
  refine ⟨rfl, ?_⟩
  refine ⟨rfl, ?_⟩
  refine ⟨rfl, ?_⟩
  refine ⟨rfl, ?_⟩
  refine ⟨rfl, ?_⟩
  refine ⟨rfl, ?_⟩
  refine ⟨rfl, ?_⟩
  refine ⟨rfl, ?_⟩
  refine ⟨rfl, ?_⟩
  refine ⟨rfl, ?_⟩
  refine ⟨rfl, ?_⟩
  refine ⟨rfl, ?_⟩
  refine ⟨rfl, ?_⟩
  refine ⟨rfl, ?_⟩
  refine ⟨rfl, ?_⟩
  exact trivial
theorem nd60 : va_nd [0, 69, 70, 25, 26, 27, 30, 28, 29, 31, 34, 32, 33, 35, 38, 36, 37, 39, 42, 40, 41, 43, 46, 44, 45, 47, 50, 48, 49, 51, 54, 52, 53, 55, 58, 56, 57, 59, 62, 60, 61, 63, 66, 64, 65, 67, 68, 3, 12, 4, 7, 5, 6, 11, 8, 13, 9, 10, 1, 2, 14, 23, 15, 18, 16, 17, 22, 19, 24, 20, 21] = true := by decide +kernel
theorem gpickR {D : va_G} {A : Nat → Prop} {wr w wq : va_W} {H : Heap} (is : List Nat) (hnd : va_nd is = true) (h : pk9 w is wq) (hP : va_P D vwCl (wr ++ w) H) (hD : va_D A (wr ++ w)) : va_P D vwCl (wr ++ wq) H ∧ va_D A (wr ++ wq) := by
  have hn := D_nodup hD
  rw [List.map_append, List.nodup_append] at hn
  have hAm : ∀ q ∈ wr ++ w, A q.1 := fun q hq => by
    obtain ⟨k, hk⟩ := List.getElem?_of_mem hq
    exact hD.2 k q hk
  have hm := pk9_mem is wq h
  have hDw : va_D (fun _ => True) w := D_of hn.2.1 (fun _ _ => trivial)
  refine ⟨P_mem.mpr fun q hq => ?_, D_of ?_ (fun q hq => ?_)⟩
  · rcases List.mem_append.mp hq with h1 | h1
    · exact P_mem.mp hP q (List.mem_append_left _ h1)
    · exact P_mem.mp hP q (List.mem_append_right _ (hm q h1))
  · rw [List.map_append, List.nodup_append]
    refine ⟨hn.1, D_nodup (hDw.sub is hnd (pk9_map is wq h)), fun a ha b hb hab => ?_⟩
    obtain ⟨q, hq, rfl⟩ := List.mem_map.mp hb
    exact hn.2.2 a ha q.1 (List.mem_map.mpr ⟨q, hm q hq, rfl⟩) hab
  · rcases List.mem_append.mp hq with h1 | h1
    · exact hAm q (List.mem_append_left _ h1)
    · exact hAm q (List.mem_append_right _ (hm q h1))
theorem mi_L_X6 : MwI yX6_init cX6_init 1 := ⟨mw_X6_init.1, mw_X6_init.2.1, mw_X6_init.2.2.1, mw_X6_init.2.2.2.1, mw_X6_init.2.2.2.2⟩
section NX6
variable {p : Program} {l : Launch} {e : Env} {R : Room} {s : State} {m : MethodId} {args : Array Value} {below : List Frame} {meth : Method} {c : Code} {H : Heap} {locs : List Loc} {cells slots : Nat} {Q : State → Prop}
variable {D : va_G} {g : Nat → ClassId} {x : Xd} {A : Nat → Prop} {cc : ByteArray} {nL : Nat} {ret0 : Option FieldType} {pc : Nat} {ls : Array Slot} {rest : List Value}
set_option maxRecDepth 100000 in
set_option maxHeartbeats 4000000 in
theorem newX6 (X : Cx p s m args meth c RL cc nL ret0 D g x A) (wr : va_W) (hR : 4 ≤ R.frames ∧ 110 ≤ R.locals) (hP : va_P D vwCl wr H) (hD : va_D A wr) (hS : va_S A s.heap H locs) (hls : ls.size = nL) (hrm : ((.ref 0 :: rest).map fun v => v.category).sum ≤ 8) (hcs : cells + 71 ≤ R.cells ∧ slots + 1079 ≤ R.slots) (d0 : decode cc pc = .ok (.new 37, 3)) (d3 : decode cc (pc + 3) = .ok (.dup, 1)) (d4 : decode cc (pc + 4) = .ok (.invokespecial 124, 3))
    (kk : ∀ (a : Nat → Nat) (e9 : Nat → Nat → Nat) (H1 : Heap) (locs1 : List Loc), va_P D vwCl (wr ++ w6 g a e9 σ60) H1 → va_D A (wr ++ w6 g a e9 σ60) → va_S A s.heap H1 locs1 → W p l e R s m args below meth c H1 locs1 (cells + 71) (slots + 1079) Q (F0 m (pc + 7) ls (.ref (a 0) :: rest))) : W p l e R s m args below meth c H locs cells slots Q (F0 m pc ls rest) := by
  obtain ⟨hx, hb, -⟩ := id X
  refine cnewO X (ws := wr) nw_L_37 hP hD hS (Nat.le_trans (Nat.add_le_add_left (by decide) cells) hcs.1) (Nat.le_trans (Nat.add_le_add_left (by decide) slots) hcs.2) d0 (fun b H hP hD hS => ?_)
  refine lv_dup hx hb d3 rfl ?_
  refine ccallI X (rest := .ref b :: rest) (ws := wr ++ [(b, .inr (6, [.null, .null, .null, .null, .null, .null, .null]))]) (wr := wr) (kC_X6 D g x l b) mi_L_X6 (Or.inl ml_L_124) ⟨hR.1, Nat.le_trans (by decide) hR.2⟩ rfl hP hD hS hls hrm d4 ⟨by omega, by omega⟩ (fun w1 H locs hw hP hD hS => ?_)
  obtain ⟨q1, q2, q3, q4, q5, q6, q7, q8, q9, q10, q11, q12, q13, q14, q15, q16, q17, q18, q19, q20, q21, q22, q23, q24, q25, q26, q27, q28, q29, q30, q31, q32, q33, q34, q35, q36, q37, q38, q39, q40, q41, q42, q43, q44, q45, q46, q47, q48, q49, q50, q51, q52, q53, q54, q55, q56, q57, q58, q59, q60, q61, q62, q63, q64, q65, q66, q67, q68, q69, q70, rfl⟩ := hw
  obtain ⟨hP, hD⟩ := gpickR _ nd60 (pk60 g b q1 q2 q3 q4 q5 q6 q7 q8 q9 q10 q11 q12 q13 q14 q15 q16 q17 q18 q19 q20 q21 q22 q23 q24 q25 q26 q27 q28 q29 q30 q31 q32 q33 q34 q35 q36 q37 q38 q39 q40 q41 q42 q43 q44 q45 q46 q47 q48 q49 q50 q51 q52 q53 q54 q55 q56 q57 q58 q59 q60 q61 q62 q63 q64 q65 q66 q67 q68 q69 q70) hP hD
  exact kk _ _ _ _ hP hD hS
end NX6
