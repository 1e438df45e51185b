abbrev gvn : Cond := Jvm.Cond.and given_1 narrow_1
theorem nm_54 : Cond.exactly (.string RX7 54) "java/lang/String" ∈ flatC gvn := by decide +kernel
theorem nm_213 : Cond.exactly (.string RX7 213) "java/lang/String" ∈ flatC gvn := by decide +kernel
theorem nm_238 : Cond.exactly (.string RX7 238) "java/lang/String" ∈ flatC gvn := by decide +kernel
theorem nm_243 : Cond.exactly (.string RX7 243) "java/lang/String" ∈ flatC gvn := by decide +kernel
theorem nm_u : Cond.isRef (.static Bundle.tN "UNASSIGNED_STACK" Bundle.steD) ∈ flatC gvn := by decide +kernel
theorem nm_l : Cond.isRef (.static Bundle.tN "SUPPRESSED_SENTINEL" Bundle.listD) ∈ flatC gvn := by decide +kernel
theorem nm_01 : Cond.not (.castable (exn 0) (exn 1)) ∈ flatC gvn := by decide +kernel
theorem nm_02 : Cond.not (.castable (exn 0) (exn 2)) ∈ flatC gvn := by decide +kernel
theorem nm_10 : Cond.not (.castable (exn 1) (exn 0)) ∈ flatC gvn := by decide +kernel
theorem nm_12 : Cond.not (.castable (exn 1) (exn 2)) ∈ flatC gvn := by decide +kernel
theorem nm_20 : Cond.not (.castable (exn 2) (exn 0)) ∈ flatC gvn := by decide +kernel
theorem nm_21 : Cond.not (.castable (exn 2) (exn 1)) ∈ flatC gvn := by decide +kernel
theorem st_nc {s : State} {args : Array Value} (h : gvn.before args s = true) : NC s := by
  have hh := flat_of_before _ h
  intro a b hn
  rcases a with _ | _ | a <;> rcases b with _ | _ | b
  · exact absurd rfl hn
  · exact va_Nc.of (hh _ nm_01)
  · exact va_Nc.of (hh _ nm_02)
  · exact va_Nc.of (hh _ nm_10)
  · exact absurd rfl hn
  · exact va_Nc.of (hh _ nm_12)
  · exact va_Nc.of (hh _ nm_20)
  · exact va_Nc.of (hh _ nm_21)
  · exact absurd rfl hn
theorem st_ws {Γ : Ga} {s : State} {args : Array Value} (hts : ∀ w ∈ lw_tbl, w.before args s = true) (h : gvn.before args s = true) (h21 : ∀ q, Γ.2.2.1 21 q = q) : WS Γ s := by
  have hh := flat_of_before _ h
  refine ⟨st_vk (hts _ (tt3 (i := 172) rfl)) (hh _ nm_54), st_vk (hts _ (tt4 (i := 56) rfl)) (hh _ nm_213), st_vk (hts _ (tt3 (i := 124) rfl)) (hh _ nm_238), st_vk (hts _ (tt3 (i := 69) rfl)) (hh _ nm_243), h21, fun w hw => ?_⟩
  have key : ∀ w ∈ lwF, w ∈ lw_tbl := List.forall_mem_cons.mpr ⟨tt3 (i := 30) rfl, List.forall_mem_cons.mpr ⟨tt3 (i := 165) rfl, List.forall_mem_cons.mpr ⟨tt3 (i := 117) rfl, List.forall_mem_cons.mpr ⟨tt3 (i := 32) rfl, List.forall_mem_cons.mpr ⟨tt3 (i := 34) rfl, List.forall_mem_cons.mpr ⟨tt3 (i := 36) rfl, fun _ h => (List.not_mem_nil h).elim⟩⟩⟩⟩⟩⟩
  have hg : w.onTables = true := by
    have := lwF_g w hw
    simp only [Bool.and_eq_true] at this
    exact this.1
  exact va_Nw.of hg (hts _ (key w hw))
