theorem tt1 {i : Nat} {w : Cond} (h : tables_1_1[i]? = some w) : w ∈ lw_tbl := List.mem_append_right _ (by unfold tables_1; simp only [List.mem_append]; exact Or.inl (List.mem_of_getElem? h))
theorem tt2 {i : Nat} {w : Cond} (h : tables_1_2[i]? = some w) : w ∈ lw_tbl := List.mem_append_right _ (by unfold tables_1; simp only [List.mem_append]; exact Or.inr (Or.inl (List.mem_of_getElem? h)))
theorem tt3 {i : Nat} {w : Cond} (h : tables_1_3[i]? = some w) : w ∈ lw_tbl := List.mem_append_right _ (by unfold tables_1; simp only [List.mem_append]; exact Or.inr (Or.inr (Or.inl (List.mem_of_getElem? h))))
theorem tt4 {i : Nat} {w : Cond} (h : tables_1_4[i]? = some w) : w ∈ lw_tbl := List.mem_append_right _ (by unfold tables_1; simp only [List.mem_append]; exact Or.inr (Or.inr (Or.inr (Or.inl (List.mem_of_getElem? h)))))
theorem tt5 {i : Nat} {w : Cond} (h : tables_1_5[i]? = some w) : w ∈ lw_tbl := List.mem_append_right _ (by unfold tables_1; simp only [List.mem_append]; exact Or.inr (Or.inr (Or.inr (Or.inr (List.mem_of_getElem? h)))))
theorem st_fl {l : Launch} (h : l.flags = flags0) : l.stackTraces = false := by
  show (!l.flags.contains noTraceFlag) = false
  rw [h]; simp [flags0]
theorem st_ar {s : State} {args : Array Value} {ty : FieldType} (h : (Cond.arrayClass ty).before args s = true) : ∃ cA : ClassId, (∃ (k : Class) (comp : ClassId), s.vm.findClass ("[" ++ ty.toString) = some cA ∧ s.vm.classes[cA]? = some k ∧ k.kind = .array comp ty) := by
  obtain ⟨c, k, comp, h1, h2, h3⟩ := Cond.arrayClass_spec h
  exact ⟨c, k, comp, h1, h2, h3⟩
theorem st_aq {s : State} {C : String} (h : va_AO C s) : ∃ cA : ClassId, ArrOfT s cA (.object C) ∧ va_RA s cA (.object C) := by
  obtain ⟨comp, c, k, h1, h2, h3, h4, h5⟩ := Cond.arrayOver_spec h
  exact ⟨c, fun N z => ⟨(fun k h => by cases h), k, h3, comp, h4⟩, ⟨k, comp, h3, h4, h1, h5⟩⟩
theorem st_ai {s : State} {args : Array Value} (h : (Cond.arrayClass .int).before args s = true) : ∃ cA : ClassId, ArrOfT s cA .int ∧ va_RA s cA .int := by
  obtain ⟨c, k, comp, h1, h2, h3⟩ := st_ar h
  exact ⟨c, fun N z => ⟨(fun k h => by cases h), k, h2, comp, h3⟩, h1⟩
theorem st_ab {s : State} {args : Array Value} (h : (Cond.arrayClass .boolean).before args s = true) : ∃ cA : ClassId, ArrOfT s cA .boolean ∧ va_RA s cA .boolean := by
  obtain ⟨c, k, comp, h1, h2, h3⟩ := st_ar h
  exact ⟨c, fun N z => ⟨(fun k h => by cases h), k, h2, comp, h3⟩, h1⟩
theorem st_al {s : State} {args : Array Value} (h : (Cond.arrayClass .long).before args s = true) : ∃ cA : ClassId, ArrOfT s cA .long ∧ va_RA s cA .long := by
  obtain ⟨c, k, comp, h1, h2, h3⟩ := st_ar h
  exact ⟨c, fun N z => ⟨(fun k h => by cases h), k, h2, comp, h3⟩, h1⟩
theorem wt_all : ∀ c, c < 9 → Cond.instantiable (fcl c).1 (nf c) ∈ lwA := by
  intro c hc
  rcases (show c = 0 ∨ c = 1 ∨ c = 2 ∨ c = 3 ∨ c = 4 ∨ c = 5 ∨ c = 6 ∨ c = 7 ∨ c = 8 by omega) with rfl | rfl | rfl | rfl | rfl | rfl | rfl | rfl | rfl
  · exact wt_0
  · exact wt_1
  · exact wt_2
  · exact wt_3
  · exact wt_4
  · exact wt_5
  · exact wt_6
  · exact wt_7
  · exact wt_8
/-- the classes' numbers, at the law's entry -/
theorem st_ga {s : State} {args : Array Value} (hts : ∀ w ∈ lwA, w.before args s = true) (hN : GN s) (h0 : Nat) : ∃ Γ : Ga, Γ.2.2.2 = h0 ∧ va_K Γ.1 vwCl (tyl Γ) s := by
  have hc : ∀ c : Nat, ∃ q : ClassId × (Nat → Nat), c < 9 → u_Kn s (fcl c).1 (fcl c).2.1 (nf c) q.1 q.2 := by
    intro c
    by_cases h : c < 9
    · obtain ⟨cC, iS, hk⟩ := u_known (C := (fcl c).1) (T := (fcl c).2.1) (N := nf c) (n := nf c) hts (fcl_in h) (hts _ (wt_all c h))
      exact ⟨(cC, iS), fun _ => hk⟩
    · exact ⟨(0, fun _ => 0), fun h' => absurd h' h⟩
  obtain ⟨a0, p0⟩ := st_ai (hts _ wa_int)
  obtain ⟨a1, p1⟩ := st_ab (hts _ wa_boolean)
  obtain ⟨a2, p2⟩ := st_aq hN.2.1
  obtain ⟨a3, p3⟩ := st_aq hN.1
  obtain ⟨a4, p4⟩ := st_al (hts _ wa_long)
  refine ⟨((fun c => (Classical.choose (hc c)).1, fun c => (Classical.choose (hc c)).2), (fun j => match j with | 0 => a0 | 1 => a1 | 2 => a2 | 3 => a3 | _ => a4), fun _ _ => 0, h0), rfl, fun c q hq => ?_, fun k q hq => ?_⟩
  · have h9 : c < 9 := (List.getElem?_eq_some_iff.mp hq).1
    rw [fcl_at h9] at hq
    obtain rfl := Option.some.inj hq
    exact Classical.choose_spec (hc c) h9
  · have h5 : k < 5 := (List.getElem?_eq_some_iff.mp hq).1
    rcases (show k = 0 ∨ k = 1 ∨ k = 2 ∨ k = 3 ∨ k = 4 by omega) with rfl | rfl | rfl | rfl | rfl
    · obtain rfl := Option.some.inj hq; exact p0
    · obtain rfl := Option.some.inj hq; exact p1
    · obtain rfl := Option.some.inj hq; exact p2
    · obtain rfl := Option.some.inj hq; exact p3
    · obtain rfl := Option.some.inj hq; exact p4
theorem st_gn {s : State} {args : Array Value} (h : ∀ w ∈ lw_tbl, w.before args s = true) : GN s :=
  ⟨va_AO.of (h _ (tt1 (i := 53) rfl)), va_AO.of (h _ (tt1 (i := 182) rfl)), va_Nw.of rfl (h _ (tt1 (i := 61) rfl)), va_Nw.of rfl (h _ (tt1 (i := 199) rfl)), va_Nw.of rfl (h _ (tt1 (i := 202) rfl))⟩
theorem st_vk {s : State} {args : Array Value} {k : Nat} {tx : String} (h : (Cond.stringRef RX7 k tx).before args s = true) (he : (Cond.exactly (.string RX7 k) "java/lang/String").before args s = true) : ∃ a, vk_R RX7 k tx a s := by
  obtain ⟨a, c, cell, kk, q1, -⟩ := Cond.exactly_spec (args := args) (first := s) (o := none) (s := s) (idx := []) he
  exact ⟨a, vk_R.of h q1⟩
