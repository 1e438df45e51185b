def Fr14 (σ σ' : Sto) : Prop := ∀ c i k : Nat, c ≠ 14 → σ' c i k = σ c i k
theorem ci_14 {σ σ' : Sto} (h : CI σ) (f : Fr14 σ σ') : CI σ' := by
  have f0 : ∀ i k, σ' 0 i k = σ 0 i k := fun i k => f 0 i k (by omega)
  have f1 : ∀ i k, σ' 1 i k = σ 1 i k := fun i k => f 1 i k (by omega)
  have f2 : ∀ i k, σ' 2 i k = σ 2 i k := fun i k => f 2 i k (by omega)
  have f3 : ∀ i k, σ' 3 i k = σ 3 i k := fun i k => f 3 i k (by omega)
  have f4 : ∀ i k, σ' 4 i k = σ 4 i k := fun i k => f 4 i k (by omega)
  have f6 : ∀ i k, σ' 6 i k = σ 6 i k := fun i k => f 6 i k (by omega)
  have f9 : ∀ i k, σ' 9 i k = σ 9 i k := fun i k => f 9 i k (by omega)
  have f10 : ∀ i k, σ' 10 i k = σ 10 i k := fun i k => f 10 i k (by omega)
  have f11 : ∀ i k, σ' 11 i k = σ 11 i k := fun i k => f 11 i k (by omega)
  have f12 : ∀ i k, σ' 12 i k = σ 12 i k := fun i k => f 12 i k (by omega)
  unfold CI Phy BxG ClOK SetOK TxOK EntOK bx4 cn_ en at *
  simp only [f0, f1, f2, f3, f4, f6, f9, f10, f11, f12]
  exact h
theorem fr_14 {σ : Sto} {v : Int} : Fr14 σ (up3 σ 14 0 0 v) := fun _ _ _ h => up_nc h
theorem cp_f14 {σ σ' : Sto} (h : Cp σ) (f : Fr14 σ σ') : Cp σ' :=
  cp_q h (ci_14 h.1 f) ⟨fun c k _ _ => ⟨f 1 c k (by omega), f 9 c k (by omega)⟩, fun i _ c k hc => f c i k (by omega), fun k => f 11 0 k (by omega), f 3 0 1 (by omega), f 6 0 1 (by omega), fun k => f 12 2 k (by omega)⟩ ⟨fun k _ => f 12 3 k (by omega), fun k => f 12 4 k (by omega), fun k => f 12 11 k (by omega), f 8 0 3 (by omega), f 8 0 12 (by omega)⟩
theorem cp_14 {σ : Sto} {v : Int} (h : Cp σ) : Cp (up3 σ 14 0 0 v) := cp_f14 h fr_14
theorem up_c14 {σ : Sto} {c i j : Nat} {x v : Int} (h : c ≠ 14) : up3 (up3 σ c i j x) 14 0 0 v = up3 (up3 σ 14 0 0 v) c i j x := by
  funext c' i' k'
  by_cases hc : c' = 14
  · subst hc
    rw [up_nc (c := c) (c' := 14) (by omega)]
    unfold up3
    split <;> first | rfl | (rw [if_neg (by omega)])
  · rw [up_nc hc]
    unfold up3
    split <;> first | rfl | (rw [if_neg (fun e => hc e.1)])
theorem fr_both {σ τ : Sto} {v : Int} {c' i k : Nat} (h : τ c' i k = σ c' i k) : up3 τ 14 0 0 v c' i k = up3 σ 14 0 0 v c' i k := by
  unfold up3
  split
  · rfl
  · exact h
theorem savp_14 {σ τ : Sto} {v : Int} (h : SavP σ τ 0) : SavP (up3 σ 14 0 0 v) (up3 τ 14 0 0 v) 0 := by
  have nσ : ∀ {c i k : Nat}, c ≠ 14 → up3 σ 14 0 0 v c i k = σ c i k := fun h => up_nc h
  have nτ : ∀ {c i k : Nat}, c ≠ 14 → up3 τ 14 0 0 v c i k = τ c i k := fun h => up_nc h
  obtain ⟨a, b, c, s, h1, h2, h3, h4, h5, h6⟩ := h
  refine ⟨?_, fun j hj => ?_, fun e he => ?_, s, h1, h2, ?_, fun k k1 k2 => ?_, fun i hi => ?_, fun c' i k o1 o2 o3 o4 => fr_both (h6 c' i k o1 o2 o3 o4)⟩
  · rw [nτ (by decide), nσ (by decide)]; exact a
  · rw [nτ (by decide), nσ (by decide), nσ (by decide), nσ (by decide), nσ (by decide)]; exact b j hj
  · obtain ⟨o, o1, o2, o3⟩ := c e he
    exact ⟨o, o1, o2, fun k hk => by rw [nτ (by decide), nσ (by decide)]; exact o3 k hk⟩
  · rw [nτ (by decide), nτ (by decide)]; exact h3
  · rw [nτ (by decide), nσ (by decide)]; exact h4 k k1 k2
  · have hi' : i < cn_ σ 0 := by unfold cn_ at hi ⊢; rw [nσ (by decide)] at hi; exact hi
    obtain ⟨p1, p2, p3⟩ := h5 i hi'
    unfold EntEq en
    rw [nσ (by decide), nσ (by decide)]
    exact ⟨fun k k1 k2 => by rw [nτ (by decide), nσ (by decide)]; exact p1 k k1 k2, fun k hk => by rw [nτ (by decide), nσ (by decide)]; rw [nσ (by decide)] at hk; exact p2 k hk, fun k hk => by rw [nτ (by decide), nσ (by decide)]; exact p3 k hk⟩
theorem takp_14 {σ τ : Sto} {v w : Int} (h : TakP σ τ 0 w) : TakP (up3 σ 14 0 0 v) (up3 τ 14 0 0 v) 0 w := by
  have nσ : ∀ {c i k : Nat}, c ≠ 14 → up3 σ 14 0 0 v c i k = σ c i k := fun h => up_nc h
  have nτ : ∀ {c i k : Nat}, c ≠ 14 → up3 τ 14 0 0 v c i k = τ c i k := fun h => up_nc h
  obtain ⟨a, b, c, d, e⟩ := h
  refine ⟨?_, fun i hi => ?_, fun i hi => ?_, fun i hi => ?_, fun c' i k o1 o2 => fr_both (e c' i k o1 o2)⟩
  · rw [nτ (by decide), nσ (by decide)]; exact a
  · rw [nτ (by decide), nσ (by decide), nσ (by decide)]; rw [nσ (by decide)] at hi; exact b i hi
  · rw [nτ (by decide), nσ (by decide)]; rw [nσ (by decide)] at hi; exact c i hi
  · rw [nτ (by decide), nσ (by decide)]; rw [nσ (by decide)] at hi; exact d i hi
theorem cldcp_14 {σ τ : Sto} {v : Int} {d : Nat} (h : CldCp σ τ 0 d) : CldCp (up3 σ 14 0 0 v) (up3 τ 14 0 0 v) 0 d := by
  have nσ : ∀ {c i k : Nat}, c ≠ 14 → up3 σ 14 0 0 v c i k = σ c i k := fun h => up_nc h
  have nτ : ∀ {c i k : Nat}, c ≠ 14 → up3 τ 14 0 0 v c i k = τ c i k := fun h => up_nc h
  obtain ⟨a, b, c, e⟩ := h
  refine ⟨fun k k1 k2 => ?_, fun i hi => ?_, fun c' i k o1 o2 => fr_both (c c' i k o1 o2), fun x hx => ?_⟩
  · rw [nτ (by decide), nσ (by decide)]; exact a k k1 k2
  · have hi' : i < cn_ σ d := by unfold cn_ at hi ⊢; rw [nσ (by decide)] at hi; exact hi
    obtain ⟨p1, p2, p3⟩ := b i hi'
    unfold EntEq en
    rw [nσ (by decide), nσ (by decide)]
    exact ⟨fun k k1 k2 => by rw [nτ (by decide), nσ (by decide)]; exact p1 k k1 k2, fun k hk => by rw [nτ (by decide), nσ (by decide)]; rw [nσ (by decide)] at hk; exact p2 k hk, fun k hk => by rw [nτ (by decide), nσ (by decide)]; exact p3 k hk⟩
  · obtain ⟨o, o1, o2, o3⟩ := e x hx
    exact ⟨o, o1, o2, fun k hk => by rw [nτ (by decide), nσ (by decide)]; exact o3 k hk⟩
theorem mS_14 {σ σ' : Sto} (f : Fr14 σ σ') : mS σ' = mS σ := by funext k; exact f 12 3 _ (by omega)
theorem mV_14 {σ σ' : Sto} (f : Fr14 σ σ') : mV σ' = mV σ := by funext w k; exact f 12 3 _ (by omega)
