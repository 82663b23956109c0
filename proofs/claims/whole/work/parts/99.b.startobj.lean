/-! the two new objects, in the order of the law's world -/
def σ90 : S6 := (0, 1, 0, 1, 0, (fun _ => 0), (fun _ => 0), (fun _ => 0), (fun _ _ => 0), (fun _ _ => 0), (fun _ _ => 0), 0, (fun _ => 0), (fun _ => 0), 0, 0, 0, (fun _ => 0), (fun _ => 0), (fun _ => 0), (fun _ => 0), (fun _ => 0), (fun _ => 0), (fun _ => 0), (fun _ => 0), 0, 0, 5, 0, 0, 0, ((-1)), (fun _ => 0), (fun _ => 0), 0, 0, 0, (fun _ => 0), (fun _ => 0), (fun _ => 0), (fun _ => 0), (fun _ => 0), (fun _ => 0), (fun _ => 0), (fun _ => 0))
def τ90 : S7 := (0, 0, 0, 0, (-1), 0, 0, 0, 0, 0, 0, 0, 0, 0, 0, 0, (fun _ => 0), (fun _ => 0), (fun _ => 0), (fun _ => 0), (fun _ => 0), (fun _ => 0), (fun _ => 0), (fun _ => 0), (fun _ => 0))
theorem js0 : JS (σ90, τ90, (fun _ => 0), (fun _ => 0)) := JZ0 rfl rfl rfl rfl rfl rfl rfl rfl rfl rfl rfl rfl rfl rfl rfl rfl
def pk9 (ws : va_W) : List Nat → va_W → Prop
  | [], [] => True
  | i :: is, q :: qs => ws[i]? = some q ∧ pk9 ws is qs
  | _, _ => False
theorem pk9_map {ws : va_W} : ∀ (is : List Nat) (qs : va_W), pk9 ws is qs → is.map (fun i => ws[i]?) = qs.map some
  | [], [], _ => rfl
  | i :: is, q :: qs, h => by
    rw [List.map_cons, List.map_cons, h.1, pk9_map is qs h.2]
  | [], _ :: _, h => False.elim h
  | _ :: _, [], h => False.elim h
theorem pk9_mem {ws : va_W} : ∀ (is : List Nat) (qs : va_W), pk9 ws is qs → ∀ q ∈ qs, q ∈ ws
  | [], [], _ => fun q h => nomatch h
  | i :: is, q :: qs, h => fun r hr => by
    rcases List.mem_cons.mp hr with rfl | hr
    · exact List.mem_of_getElem? h.1
    · exact pk9_mem is qs h.2 r hr
  | [], _ :: _, h => False.elim h
  | _ :: _, [], h => False.elim h
theorem pk9_P {D : va_G} {ws qs : va_W} {H : Heap} {is : List Nat} (h : pk9 ws is qs) (hP : va_P D vwCl ws H) : va_P D vwCl qs H := P_mem.mpr fun q hq => P_mem.mp hP q (pk9_mem is qs h q hq)
def a90 (b q1 q2 q3 q4 q5 q6 q7 q8 q9 q10 q11 q12 q13 q14 q15 q16 q17 q18 q19 q20 q21 q22 q23 q24 q25 q26 q27 q28 q29 q30 q31 q32 q33 q34 q35 q36 q37 q38 q39 q40 q41 q42 q43 q44 q45 q46 q47 q48 q49 q50 q51 q52 q53 q54 q55 q56 q57 q58 q59 q60 q61 q62 q63 q64 q65 q66 q67 q68 q69 q70 : Nat) : Nat → Nat := fun i => ([b, q69, q70, q25, q26, q67, q68, q3, q12, q4, q7, q5, q6, q11, q8, q13, q9, q10, q1, q2, q14, q23, q15, q18, q16, q17, q22, q19, q24, q20, q21] : List Nat).getD i 0
def e90 (b q1 q2 q3 q4 q5 q6 q7 q8 q9 q10 q11 q12 q13 q14 q15 q16 q17 q18 q19 q20 q21 q22 q23 q24 q25 q26 q27 q28 q29 q30 q31 q32 q33 q34 q35 q36 q37 q38 q39 q40 q41 q42 q43 q44 q45 q46 q47 q48 q49 q50 q51 q52 q53 q54 q55 q56 q57 q58 q59 q60 q61 q62 q63 q64 q65 q66 q67 q68 q69 q70 : Nat) : Nat → Nat → Nat := fun r => match r with
  | 0 => fun k => ([q27, q31, q35, q39, q43, q47, q51, q55, q59, q63] : List Nat).getD k 0
  | 1 => fun k => ([q30, q34, q38, q42, q46, q50, q54, q58, q62, q66] : List Nat).getD k 0
  | 2 => fun k => ([q28, q32, q36, q40, q44, q48, q52, q56, q60, q64] : List Nat).getD k 0
  | _ => fun k => ([q29, q33, q37, q41, q45, q49, q53, q57, q61, q65] : List Nat).getD k 0
def a97 (b7 r1 r2 r3 r4 r5 r6 r7 r8 r9 : Nat) : Nat → Nat := fun i => ([b7, r2, r4, r7, r3, r6, r9, r8, r1, r5] : List Nat).getD i 0
set_option maxRecDepth 100000 in
set_option maxHeartbeats 4000000 in
theorem pk90 (g : Nat → ClassId) (b q1 q2 q3 q4 q5 q6 q7 q8 q9 q10 q11 q12 q13 q14 q15 q16 q17 q18 q19 q20 q21 q22 q23 q24 q25 q26 q27 q28 q29 q30 q31 q32 q33 q34 q35 q36 q37 q38 q39 q40 q41 q42 q43 q44 q45 q46 q47 q48 q49 q50 q51 q52 q53 q54 q55 q56 q57 q58 q59 q60 q61 q62 q63 q64 q65 q66 q67 q68 q69 q70 b7 r1 r2 r3 r4 r5 r6 r7 r8 r9 qo qd : Nat) : pk9 (((wC_X6 g b q1 q2 q3 q4 q5 q6 q7 q8 q9 q10 q11 q12 q13 q14 q15 q16 q17 q18 q19 q20 q21 q22 q23 q24 q25 q26 q27 q28 q29 q30 q31 q32 q33 q34 q35 q36 q37 q38 q39 q40 q41 q42 q43 q44 q45 q46 q47 q48 q49 q50 q51 q52 q53 q54 q55 q56 q57 q58 q59 q60 q61 q62 q63 q64 q65 q66 q67 q68 q69 q70 ++ wC_X7 g b7 r1 r2 r3 r4 r5 r6 r7 r8 r9) ++ [(qo, .inl (g 1, (1, .inr (.inl (fun _ => 0)))))]) ++ [(qd, .inl (g 3, (1, .inr (.inr (.inr (.inl (fun _ => 0)))))))] : va_W) [0, 69, 70, 25, 26, 27, 30, 28, 29, 31, 34, 32, 33, 35, 38, 36, 37, 39, 42, 40, 41, 43, 46, 44, 45, 47, 50, 48, 49, 51, 54, 52, 53, 55, 58, 56, 57, 59, 62, 60, 61, 63, 66, 64, 65, 67, 68, 3, 12, 4, 7, 5, 6, 11, 8, 13, 9, 10, 1, 2, 14, 23, 15, 18, 16, 17, 22, 19, 24, 20, 21, 71, 73, 75, 78, 74, 77, 80, 79, 72, 76, 81, 82] (wL g (a90 b q1 q2 q3 q4 q5 q6 q7 q8 q9 q10 q11 q12 q13 q14 q15 q16 q17 q18 q19 q20 q21 q22 q23 q24 q25 q26 q27 q28 q29 q30 q31 q32 q33 q34 q35 q36 q37 q38 q39 q40 q41 q42 q43 q44 q45 q46 q47 q48 q49 q50 q51 q52 q53 q54 q55 q56 q57 q58 q59 q60 q61 q62 q63 q64 q65 q66 q67 q68 q69 q70, e90 b q1 q2 q3 q4 q5 q6 q7 q8 q9 q10 q11 q12 q13 q14 q15 q16 q17 q18 q19 q20 q21 q22 q23 q24 q25 q26 q27 q28 q29 q30 q31 q32 q33 q34 q35 q36 q37 q38 q39 q40 q41 q42 q43 q44 q45 q46 q47 q48 q49 q50 q51 q52 q53 q54 q55 q56 q57 q58 q59 q60 q61 q62 q63 q64 q65 q66 q67 q68 q69 q70, a97 b7 r1 r2 r3 r4 r5 r6 r7 r8 r9, qo, qd) (σ90, τ90, (fun _ => 0), (fun _ => 0))) := by
  refine ⟨rfl, ?_⟩
  refine ⟨rfl, ?_⟩
  refine ⟨rfl, ?_⟩
  refine ⟨rfl, ?_⟩
  refine ⟨rfl, ?_⟩
  refine ⟨rfl, ?_⟩
  refine ⟨rfl, ?_⟩
  refine ⟨rfl, ?_⟩
  refine ⟨rfl, ?_⟩
  refine ⟨rfl, ?_⟩
  refine ⟨rfl, ?_⟩
  refine ⟨rfl, ?_⟩
  refine ⟨rfl, ?_⟩
  refine ⟨rfl, ?_⟩
  refine ⟨rfl, ?_⟩
  refine ⟨rfl, ?_⟩
  refine ⟨rfl, ?_⟩
  refine ⟨rfl, ?_⟩
  refine ⟨rfl, ?_⟩
  refine ⟨rfl, ?_⟩
  refine ⟨rfl, ?_⟩
  refine ⟨rfl, ?_⟩
  refine ⟨rfl, ?_⟩
  refine ⟨rfl, ?_⟩
  refine ⟨rfl, ?_⟩
  refine ⟨rfl, ?_⟩
  refine ⟨rfl, ?_⟩
  refine ⟨rfl, ?_⟩
  refine ⟨rfl, ?_⟩
  refine ⟨rfl, ?_⟩
  refine ⟨rfl, ?_⟩
  refine ⟨rfl, ?_⟩
  refine ⟨rfl, ?_⟩
  refine ⟨rfl, ?_⟩
  refine ⟨rfl, ?_⟩
  refine ⟨rfl, ?_⟩
  refine ⟨rfl, ?_⟩
  refine ⟨rfl, ?_⟩
  refine ⟨rfl, ?_⟩
  refine ⟨rfl, ?_⟩
  refine ⟨rfl, ?_⟩
  refine ⟨rfl, ?_⟩
  refine ⟨rfl, ?_⟩
  refine ⟨rfl, ?_⟩
  refine ⟨rfl, ?_⟩
  refine ⟨rfl, ?_⟩
  refine ⟨rfl, ?_⟩
  refine ⟨rfl, ?_⟩
  refine ⟨rfl, ?_⟩
  refine ⟨rfl, ?_⟩
  refine ⟨rfl, ?_⟩
  refine ⟨rfl, ?_⟩
  refine ⟨rfl, ?_⟩
  refine ⟨rfl, ?_⟩
  refine ⟨rfl, ?_⟩
  refine ⟨rfl, ?_⟩
  refine ⟨rfl, ?_⟩
  refine ⟨rfl, ?_⟩
  refine ⟨rfl, ?_⟩
  refine ⟨rfl, ?_⟩
  refine ⟨rfl, ?_⟩
  refine ⟨rfl, ?_⟩
  refine ⟨rfl, ?_⟩
  refine ⟨rfl, ?_⟩
  refine ⟨rfl, ?_⟩
  refine ⟨rfl, ?_⟩
  refine ⟨rfl, ?_⟩
  refine ⟨rfl, ?_⟩
  refine ⟨rfl, ?_⟩
  refine ⟨rfl, ?_⟩
  refine ⟨rfl, ?_⟩
  refine ⟨rfl, ?_⟩
  refine ⟨rfl, ?_⟩
  refine ⟨rfl, ?_⟩
  refine ⟨rfl, ?_⟩
  refine ⟨rfl, ?_⟩
  refine ⟨rfl, ?_⟩
  refine ⟨rfl, ?_⟩
  refine ⟨rfl, ?_⟩
  refine ⟨rfl, ?_⟩
  refine ⟨rfl, ?_⟩
  refine ⟨rfl, ?_⟩
  refine ⟨rfl, ?_⟩
  exact trivial
theorem nd90 : va_nd [0, 69, 70, 25, 26, 27, 30, 28, 29, 31, 34, 32, 33, 35, 38, 36, 37, 39, 42, 40, 41, 43, 46, 44, 45, 47, 50, 48, 49, 51, 54, 52, 53, 55, 58, 56, 57, 59, 62, 60, 61, 63, 66, 64, 65, 67, 68, 3, 12, 4, 7, 5, 6, 11, 8, 13, 9, 10, 1, 2, 14, 23, 15, 18, 16, 17, 22, 19, 24, 20, 21, 71, 73, 75, 78, 74, 77, 80, 79, 72, 76, 81, 82] = true := by decide +kernel
/-! the words of the two makings -/
theorem nw_L_8 : Nw RL 8 6 7 [.null, .null, .null, .null, .null, .null, .null] := ⟨RX6, TX6, tyX6, rfl, wG_t 22 (by decide +kernel) (by decide +kernel), wG_t 23 (by decide +kernel) (by decide +kernel), wG_t 1 (by decide +kernel) (by decide +kernel), cw_X6, tyX6_ok, by decide +kernel⟩
theorem ml_L_111 : Cond.methodLink RL 111 yX6_init ∈ wG := wG_t 24 (by decide +kernel) (by decide +kernel)
theorem nw_L_112 : Nw RL 112 7 25 [.null, .null, .null, .int 0, .int 0, .null, .int 0, .int 0, .int 0, .int 0, .int 0, .int 0, .int 0, .int 0, .int 0, .int 0, .int 0, .long 0, .long 0, .null, .null, .null, .null, .null, .int 0] := ⟨RX7, TX7, tyX7, rfl, wG_t 979 (by decide +kernel) (by decide +kernel), wG_t 980 (by decide +kernel) (by decide +kernel), wG_t 8 (by decide +kernel) (by decide +kernel), cw_X7, tyX7_ok, by decide +kernel⟩
theorem ml_L_114 : Cond.methodLink RL 114 yX7_init ∈ wG := wG_t 981 (by decide +kernel) (by decide +kernel)
theorem mi_X6 : MwI yX6_init cX6_init 1 := ⟨rfl, wG_t 25 (by decide +kernel) (by decide +kernel), wG_t 1 (by decide +kernel) (by decide +kernel), wG_t 26 (by decide +kernel) (by decide +kernel), ⟨by decide, by decide, by decide +kernel⟩⟩
theorem mi_X7 : MwI yX7_init cX7_init 1 := ⟨rfl, wG_t 982 (by decide +kernel) (by decide +kernel), wG_t 8 (by decide +kernel) (by decide +kernel), wG_t 983 (by decide +kernel) (by decide +kernel), ⟨by decide, by decide, by decide +kernel⟩⟩
