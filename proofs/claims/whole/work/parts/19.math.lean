def sp_max : Spec := fun a σ K KX => ∃ (x : Int) (y : Int), a = [vi x, vi y] ∧ (inR x ∧ inR y ∧ K (some (vi (max x y))) σ)
theorem sp_max_e {x : Int} {y : Int} {σ : Sto} {K : Option AV → Sto → Prop} {KX : Nat → Sto → Prop} : sp_max [vi x, vi y] σ K KX = (inR x ∧ inR y ∧ K (some (vi (max x y))) σ) := propext ⟨fun h => by obtain ⟨_, _, h, hb⟩ := h; cases h; exact hb, fun hb => ⟨_, _, rfl, hb⟩⟩
def sp_min : Spec := fun a σ K KX => ∃ (x : Int) (y : Int), a = [vi x, vi y] ∧ (inR x ∧ inR y ∧ K (some (vi (min x y))) σ)
theorem sp_min_e {x : Int} {y : Int} {σ : Sto} {K : Option AV → Sto → Prop} {KX : Nat → Sto → Prop} : sp_min [vi x, vi y] σ K KX = (inR x ∧ inR y ∧ K (some (vi (min x y))) σ) := propext ⟨fun h => by obtain ⟨_, _, h, hb⟩ := h; cases h; exact hb, fun hb => ⟨_, _, rfl, hb⟩⟩
def sp_abs : Spec := fun a σ K KX => ∃ (x : Int), a = [vi x] ∧ (inR x ∧ K (some (vi (if 0 ≤ x then x else -x))) σ)
theorem sp_abs_e {x : Int} {σ : Sto} {K : Option AV → Sto → Prop} {KX : Nat → Sto → Prop} : sp_abs [vi x] σ K KX = (inR x ∧ K (some (vi (if 0 ≤ x then x else -x))) σ) := propext ⟨fun h => by obtain ⟨_, h, hb⟩ := h; cases h; exact hb, fun hb => ⟨_, rfl, hb⟩⟩
theorem call_max {l : Launch} {Γ : Ga} {own : String} {R : Room} {idx : Nat} (hw : ∀ w ∈ ([.methodLink own idx Lib.Math.max.name, .static Lib.Math.max.name, .initialized "java/lang/Math", .code Lib.Math.max.name Lib.Math.max.code 2 (some .int)] : List Cond), w ∈ lwA) (hR : 1 ≤ R.frames ∧ 21 ≤ R.locals) :
    CallOK l Γ own R (.invokestatic idx) 0 2 0 sp_max := by
  intro p e s m args below meth c H locs cells slots cc nL pc la a rest σ K KX hfix hlen hrcv hsz hcat hdec hc1 hc2 hA hW hsp
  obtain ⟨hx, hb, hml, hown, hts⟩ := hfix
  obtain ⟨x, y, rfl, h1, h2, hK⟩ := hsp
  intro T hT X
  obtain ⟨vm', X', st⟩ := va_mathMaxV X hx (own := own) (index := idx) hown (hts _ (hw _ List.mem_cons_self)) (hts _ (hw _ (List.mem_cons_of_mem _ List.mem_cons_self))) (hts _ (hw _ (List.mem_cons_of_mem _ (List.mem_cons_of_mem _ List.mem_cons_self)))) (hts _ (hw _ (List.mem_cons_of_mem _ (List.mem_cons_of_mem _ (List.mem_cons_of_mem _ List.mem_cons_self))))) (g := F0 m pc la (.int (Int32.ofInt y) :: .int (Int32.ofInt x) :: rest)) rfl (by rw [hml]; exact hsz) (a := Int32.ofInt x) (b := Int32.ofInt y) (rest := rest) rfl (by rw [hb]; exact hdec) hR.1 (by have := lv_room (m := m) (pc := pc) (ls := la) (rest := .int (Int32.ofInt y) :: .int (Int32.ofInt x) :: rest) hcat; omega) (by omega) (by omega)
  refine Or.inl ⟨some (.int (if Int32.ofInt x < Int32.ofInt y then Int32.ofInt y else Int32.ofInt x)), T, T.setVm vm', T.setVm vm', [], hT, by simpa using X', (fun q h => by cases h), rfl, rfl, ⟨⟨some (vi (max x y)), σ, ?_, hK, ?_⟩, Nat.le_refl _, fun _ _ _ => rfl⟩, st⟩
  · show Outcome.returned _ = Outcome.returned (some (cv Γ (vi (max x y))))
    congr 3
    simp only [i32_lt h1 h2]
    by_cases h : x < y
    · rw [if_pos h, show max x y = y by omega]
    · rw [if_neg h, show max x y = x by omega]
  · have : (T.setVm vm').heap = H := hT
    rw [this]
    exact wa_moved X'.warmed.alike hA
theorem call_min {l : Launch} {Γ : Ga} {own : String} {R : Room} {idx : Nat} (hw : ∀ w ∈ ([.methodLink own idx Lib.Math.min.name, .static Lib.Math.min.name, .initialized "java/lang/Math", .code Lib.Math.min.name Lib.Math.min.code 2 (some .int)] : List Cond), w ∈ lwA) (hR : 1 ≤ R.frames ∧ 21 ≤ R.locals) :
    CallOK l Γ own R (.invokestatic idx) 0 2 0 sp_min := by
  intro p e s m args below meth c H locs cells slots cc nL pc la a rest σ K KX hfix hlen hrcv hsz hcat hdec hc1 hc2 hA hW hsp
  obtain ⟨hx, hb, hml, hown, hts⟩ := hfix
  obtain ⟨x, y, rfl, h1, h2, hK⟩ := hsp
  intro T hT X
  obtain ⟨vm', X', st⟩ := Stand.mathMinV X hx (own := own) (index := idx) hown (hts _ (hw _ List.mem_cons_self)) (hts _ (hw _ (List.mem_cons_of_mem _ List.mem_cons_self))) (hts _ (hw _ (List.mem_cons_of_mem _ (List.mem_cons_of_mem _ List.mem_cons_self)))) (hts _ (hw _ (List.mem_cons_of_mem _ (List.mem_cons_of_mem _ (List.mem_cons_of_mem _ List.mem_cons_self))))) (g := F0 m pc la (.int (Int32.ofInt y) :: .int (Int32.ofInt x) :: rest)) rfl (by rw [hml]; exact hsz) (a := Int32.ofInt x) (b := Int32.ofInt y) (rest := rest) rfl (by rw [hb]; exact hdec) hR.1 (by have := lv_room (m := m) (pc := pc) (ls := la) (rest := .int (Int32.ofInt y) :: .int (Int32.ofInt x) :: rest) hcat; omega) (by omega) (by omega)
  refine Or.inl ⟨some (.int (if Int32.ofInt y < Int32.ofInt x then Int32.ofInt y else Int32.ofInt x)), T, T.setVm vm', T.setVm vm', [], hT, by simpa using X', (fun q h => by cases h), rfl, rfl, ⟨⟨some (vi (min x y)), σ, ?_, hK, ?_⟩, Nat.le_refl _, fun _ _ _ => rfl⟩, st⟩
  · show Outcome.returned _ = Outcome.returned (some (cv Γ (vi (min x y))))
    congr 3
    simp only [i32_lt h2 h1]
    by_cases h : y < x
    · rw [if_pos h, show min x y = y by omega]
    · rw [if_neg h, show min x y = x by omega]
  · have : (T.setVm vm').heap = H := hT
    rw [this]
    exact wa_moved X'.warmed.alike hA
theorem call_abs {l : Launch} {Γ : Ga} {own : String} {R : Room} {idx : Nat} (hw : ∀ w ∈ ([.methodLink own idx Lib.Math.abs.name, .static Lib.Math.abs.name, .initialized "java/lang/Math", .code Lib.Math.abs.name Lib.Math.abs.code 1 (some .int)] : List Cond), w ∈ lwA) (hR : 1 ≤ R.frames ∧ 21 ≤ R.locals) :
    CallOK l Γ own R (.invokestatic idx) 0 1 0 sp_abs := by
  intro p e s m args below meth c H locs cells slots cc nL pc la a rest σ K KX hfix hlen hrcv hsz hcat hdec hc1 hc2 hA hW hsp
  obtain ⟨hx, hb, hml, hown, hts⟩ := hfix
  obtain ⟨x, rfl, h1, hK⟩ := hsp
  intro T hT X
  obtain ⟨vm', X', st⟩ := va_mathAbsV X hx (own := own) (index := idx) hown (hts _ (hw _ List.mem_cons_self)) (hts _ (hw _ (List.mem_cons_of_mem _ List.mem_cons_self))) (hts _ (hw _ (List.mem_cons_of_mem _ (List.mem_cons_of_mem _ List.mem_cons_self)))) (hts _ (hw _ (List.mem_cons_of_mem _ (List.mem_cons_of_mem _ (List.mem_cons_of_mem _ List.mem_cons_self))))) (g := F0 m pc la (.int (Int32.ofInt x) :: rest)) rfl (by rw [hml]; exact hsz) (a := Int32.ofInt x) (rest := rest) rfl (by rw [hb]; exact hdec) hR.1 (by have := lv_room (m := m) (pc := pc) (ls := la) (rest := .int (Int32.ofInt x) :: rest) hcat; omega) (by omega) (by omega)
  refine Or.inl ⟨some (.int (if 0 ≤ Int32.ofInt x then Int32.ofInt x else 0 - Int32.ofInt x)), T, T.setVm vm', T.setVm vm', [], hT, by simpa using X', (fun q h => by cases h), rfl, rfl, ⟨⟨some (vi (if 0 ≤ x then x else -x)), σ, ?_, hK, ?_⟩, Nat.le_refl _, fun _ _ _ => rfl⟩, st⟩
  · show Outcome.returned _ = Outcome.returned (some (cv Γ (vi (if 0 ≤ x then x else -x))))
    congr 3
    have e0 : (0 : Int32) = Int32.ofInt 0 := rfl
    rw [e0, i32_sub]
    simp only [i32_le (show inR 0 from ⟨by decide, by decide⟩) h1]
    by_cases h : 0 ≤ x
    · rw [if_pos h, if_pos h]
    · rw [if_neg h, if_neg h, Int.zero_sub]
  · have : (T.setVm vm').heap = H := hT
    rw [this]
    exact wa_moved X'.warmed.alike hA
