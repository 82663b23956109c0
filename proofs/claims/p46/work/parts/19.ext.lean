/-! ===== a contract over some cells is one over more of them ===== -/
/-- ws1 is ws with the cells wc, at the places that are true, put anew as wc1 -/
def mrgB : List Bool → va_W → va_W → va_W → va_W → Prop
  | [], [], [], [], [] => True
  | true :: bs, q :: ws, c :: wc, c1 :: wc1, r :: ws1 => q = c ∧ r = c1 ∧ c1.1 = c.1 ∧ mrgB bs ws wc wc1 ws1
  | false :: bs, q :: ws, wc, wc1, r :: ws1 => q = r ∧ mrgB bs ws wc wc1 ws1
  | _, _, _, _, _ => False
theorem mrg_sub : ∀ (bs : List Bool) (ws wc wc1 ws1 : va_W), mrgB bs ws wc wc1 ws1 → wc.Sublist ws ∧ wc1.map (fun q => q.1) = wc.map (fun q => q.1) ∧ ws1.map (fun q => q.1) = ws.map (fun q => q.1) := by
  intro bs
  induction bs with
  | nil =>
    intro ws wc wc1 ws1 h
    cases ws <;> cases wc <;> cases wc1 <;> cases ws1 <;> first | exact ⟨List.Sublist.refl _, rfl, rfl⟩ | cases h
  | cons b bs ih =>
    intro ws wc wc1 ws1 h
    cases b with
    | true =>
      cases ws with
      | nil => cases h
      | cons q ws => cases wc with
        | nil => cases h
        | cons c wc => cases wc1 with
          | nil => cases h
          | cons c1 wc1 => cases ws1 with
            | nil => cases h
            | cons r ws1 =>
              obtain ⟨rfl, rfl, h3, h4⟩ := h
              obtain ⟨i1, i2, i3⟩ := ih _ _ _ _ h4
              exact ⟨i1.cons_cons _, by rw [List.map_cons, List.map_cons, i2, h3], by rw [List.map_cons, List.map_cons, i3, h3]⟩
    | false =>
      cases ws with
      | nil => cases wc <;> cases wc1 <;> cases ws1 <;> cases h
      | cons q ws => cases ws1 with
        | nil => cases wc <;> cases wc1 <;> cases h
        | cons r ws1 =>
          have h' : q = r ∧ mrgB bs ws wc wc1 ws1 := by cases wc <;> cases wc1 <;> exact h
          obtain ⟨rfl, h4⟩ := h'
          obtain ⟨i1, i2, i3⟩ := ih _ _ _ _ h4
          exact ⟨i1.cons _, i2, by rw [List.map_cons, List.map_cons, i3]⟩
theorem mrg_get : ∀ (bs : List Bool) (ws wc wc1 ws1 : va_W), mrgB bs ws wc wc1 ws1 → (ws.map (fun q => q.1)).Nodup → ∀ r ∈ ws1, r ∈ wc1 ∨ (r ∈ ws ∧ ∀ z ∈ wc, z.1 ≠ r.1) := by
  intro bs
  induction bs with
  | nil =>
    intro ws wc wc1 ws1 h
    cases ws <;> cases wc <;> cases wc1 <;> cases ws1 <;> first | (intro _ r hr; cases hr; done) | cases h
  | cons b bs ih =>
    intro ws wc wc1 ws1 h hn r hr
    cases b with
    | true =>
      cases ws with
      | nil => cases h
      | cons q ws => cases wc with
        | nil => cases h
        | cons c wc => cases wc1 with
          | nil => cases h
          | cons c1 wc1 => cases ws1 with
            | nil => cases h
            | cons r0 ws1 =>
              obtain ⟨rfl, rfl, h3, h4⟩ := h
              rw [List.map_cons, List.nodup_cons] at hn
              rcases List.mem_cons.mp hr with rfl | hr
              · exact Or.inl List.mem_cons_self
              · rcases ih _ _ _ _ h4 hn.2 r hr with h5 | ⟨h5, h6⟩
                · exact Or.inl (List.mem_cons_of_mem _ h5)
                · refine Or.inr ⟨List.mem_cons_of_mem _ h5, fun z hz => ?_⟩
                  rcases List.mem_cons.mp hz with rfl | hz
                  · exact fun e => hn.1 (by rw [e]; exact List.mem_map.mpr ⟨r, h5, rfl⟩)
                  · exact h6 z hz
    | false =>
      cases ws with
      | nil => cases wc <;> cases wc1 <;> cases ws1 <;> cases h
      | cons q ws => cases ws1 with
        | nil => cases wc <;> cases wc1 <;> cases h
        | cons r0 ws1 =>
          have h' : q = r0 ∧ mrgB bs ws wc wc1 ws1 := by cases wc <;> cases wc1 <;> exact h
          obtain ⟨rfl, h4⟩ := h'
          rw [List.map_cons, List.nodup_cons] at hn
          rcases List.mem_cons.mp hr with rfl | hr
          · refine Or.inr ⟨List.mem_cons_self, fun z hz e => hn.1 (by rw [← e]; exact List.mem_map.mpr ⟨z, (mrg_sub _ _ _ _ _ h4).1.subset hz, rfl⟩)⟩
          · rcases ih _ _ _ _ h4 hn.2 r hr with h5 | ⟨h5, h6⟩
            · exact Or.inl h5
            · exact Or.inr ⟨List.mem_cons_of_mem _ h5, h6⟩
theorem D_of {A : Nat → Prop} {ws : va_W} (hn : (ws.map (fun q => q.1)).Nodup) (hA : ∀ q ∈ ws, A q.1) : va_D A ws :=
  ⟨fun i j a b ha hb hab => (List.getElem?_inj (by rw [List.length_map]; exact (List.getElem?_eq_some_iff.mp ha).1) hn).mp (by rw [List.getElem?_map, List.getElem?_map, ha, hb]; simp [hab]), fun k q hk => hA q (List.mem_of_getElem? hk)⟩
theorem A_mem {ws : va_W} {sz q : Nat} : va_A ws sz q ↔ (∃ z ∈ ws, z.1 = q) ∨ sz ≤ q := by
  constructor
  · rintro (⟨k, e, h⟩ | h)
    · exact Or.inl ⟨(q, e), List.mem_of_getElem? h, rfl⟩
    · exact Or.inr h
  · rintro (⟨z, hz, rfl⟩ | h)
    · obtain ⟨k, hk⟩ := List.getElem?_of_mem hz
      exact Or.inl ⟨k, z.2, hk⟩
    · exact Or.inr h
theorem mrg_A {bs : List Bool} {ws wc wc1 ws1 : va_W} (hm : mrgB bs ws wc wc1 ws1) {sz q : Nat} (h : va_A wc sz q) : va_A ws sz q := by
  rcases A_mem.mp h with ⟨z, hz, e⟩ | h
  · exact A_mem.mpr (Or.inl ⟨z, (mrg_sub _ _ _ _ _ hm).1.subset hz, e⟩)
  · exact Or.inr h
/-- what a start over more cells gives of a start over some, and what comes back -/
theorem mrg_pre {D : va_G} {g : Nat → ClassId} {x : Xd} {bs : List Bool} {ws wc wc1 ws1 : va_W} (hm : mrgB bs ws wc wc1 ws1) {sz : Nat} {U : State} (h : U.heap.size = sz ∧ va_P D vwCl ws U.heap ∧ va_K D vwCl (tyA g) U ∧ va_D (fun _ => True) ws ∧ Ext x (va_A ws sz) U U.heap) : U.heap.size = sz ∧ va_P D vwCl wc U.heap ∧ va_K D vwCl (tyA g) U ∧ va_D (fun _ => True) wc ∧ Ext x (va_A wc sz) U U.heap :=
  ⟨h.1, P_mem.mpr fun q hq => P_mem.mp h.2.1 q ((mrg_sub _ _ _ _ _ hm).1.subset hq), h.2.2.1, D_of ((D_nodup h.2.2.2.1).sublist ((mrg_sub _ _ _ _ _ hm).1.map _)) (fun _ _ => trivial), h.2.2.2.2.narrow (fun q hq => mrg_A hm hq)⟩
theorem mrg_post {D : va_G} {g : Nat → ClassId} {x : Xd} {bs : List Bool} {ws wc wc1 ws1 : va_W} (hm : mrgB bs ws wc wc1 ws1) {sz : Nat} {U t : State} (h : U.heap.size = sz ∧ va_P D vwCl ws U.heap ∧ va_K D vwCl (tyA g) U ∧ va_D (fun _ => True) ws ∧ Ext x (va_A ws sz) U U.heap) (hP1 : va_P D vwCl wc1 t.heap) (hF : va_F (va_A wc sz) U t) : va_P D vwCl ws1 t.heap ∧ va_F (va_A ws sz) U t := by
  refine ⟨P_mem.mpr fun q hq => ?_, hF.1, fun q h1 h2 => hF.2 q h1 (fun h3 => h2 (mrg_A hm h3))⟩
  rcases mrg_get _ _ _ _ _ hm (D_nodup h.2.2.2.1) q hq with h1 | ⟨h1, h2⟩
  · exact P_mem.mp hP1 q h1
  · have hl := (P_mem.mp h.2.1 q h1).lt
    refine (P_mem.mp h.2.1 q h1).kept (hF.2 q.1 hl (fun h3 => ?_))
    rcases A_mem.mp h3 with ⟨z, hz, e⟩ | h4
    · exact h2 z hz e
    · omega
theorem Cn.ext {D : va_G} {g : Nat → ClassId} {x : Xd} {l : Launch} {y : MethodName} {cc : ByteArray} {nL : Nat} {ret : Option FieldType} {fr lo : Nat} {av : List Value} {wc wc1 ws ws1 : va_W} {r : Option Value} (h : Cn D g x l y cc nL ret fr lo av wc wc1 r) (bs : List Bool) (hm : mrgB bs ws wc wc1 ws1) : Cn D g x l y cc nL ret fr lo av ws ws1 r := by
  intro sz
  refine Jvm.Free.MetFree.mono (h sz) (fun a s hp => ⟨hp.1, mrg_pre hm hp.2⟩) (fun _ _ _ _ _ h => h) (fun a s o t hp hq => ?_)
  obtain ⟨⟨h1, h2, h3⟩, L, h4, h5⟩ := hq
  obtain ⟨p1, p2⟩ := mrg_post hm hp.2 h2 h3
  exact ⟨⟨h1, p1, p2⟩, L, h4, fun q hq => mrg_A hm (h5 q hq)⟩
theorem CnX.ext {D : va_G} {g : Nat → ClassId} {x : Xd} {l : Launch} {y : MethodName} {cc : ByteArray} {nL : Nat} {ret : Option FieldType} {fr lo mc : Nat} {av : List Value} {wc wc1 ws ws1 : va_W} {tag : Nat} {r : Option Value} (h : CnX D g x l y cc nL ret fr lo mc av wc wc1 tag r) (bs : List Bool) (hm : mrgB bs ws wc wc1 ws1) : CnX D g x l y cc nL ret fr lo mc av ws ws1 tag r := by
  intro sz
  refine Jvm.Free.MetFree.mono (h sz) (fun a s hp => ⟨hp.1, mrg_pre hm hp.2⟩) (fun _ _ _ _ _ h => h) (fun a s o t hp hq => ?_)
  rcases hq with ⟨⟨h0, h1, h2, h3⟩, L, h4, h5⟩ | ⟨q, h0, E, ce, L, ⟨h1, h2, h3, h4⟩, h5, h6, h7, h8, h9, h10⟩
  · obtain ⟨p1, p2⟩ := mrg_post hm hp.2 h2 h3
    exact Or.inl ⟨⟨h0, h1, p1, p2⟩, L, h4, fun q hq => mrg_A hm (h5 q hq)⟩
  · obtain ⟨p1, p2⟩ := mrg_post hm hp.2 h3 h4
    exact Or.inr ⟨q, h0, E, ce, L, ⟨h1, h2, p1, p2⟩, h5, h6, h7, h8, h9, fun z hz => mrg_A hm (h10 z hz)⟩
