theorem boxp_b {σ σ' : Sto} (h : BoxP σ σ') (hb : ∀ e, e < 145 → bx4 σ e ∧ bitOK (σ 0 e 0) ∧ bitOK (σ 0 e 1)) : ∀ e, e < 145 → bx4 σ' e ∧ bitOK (σ' 0 e 0) ∧ bitOK (σ' 0 e 1) := by
  intro e he
  obtain ⟨o, o1, o2, o3⟩ := h e he
  unfold bx4
  rw [o3 0 (by omega), o3 1 (by omega), o3 2 (by omega), o3 3 (by omega), o3 4 (by omega), o3 5 (by omega)]
  exact hb o o1
theorem boxp_g {σ σ' : Sto} (h : BoxP σ σ') (hb : BxG σ) : BxG σ' := by
  intro e he
  obtain ⟨o, o1, o2, o3⟩ := h e (by omega)
  rw [o3 0 (by omega), o3 2 (by omega), o3 3 (by omega), o3 4 (by omega), o3 5 (by omega)]
  exact hb o (o2 he)
theorem boxp_rf {σ σ' : Sto} (h : ∀ e k : Nat, e < 145 → σ' 0 e k = σ 0 e k) : BoxP σ σ' := fun e he => ⟨e, he, id, fun k _ => h e k he⟩
theorem enteq_ok {σ σ' : Sto} {e o : Nat} (h : EntEq σ σ' e o) (hE : EntOK σ o) : EntOK σ' e := by
  obtain ⟨a, b, d⟩ := h
  unfold EntOK at hE ⊢
  rw [a 2 (by omega) (by omega), a 3 (by omega) (by omega), a 4 (by omega) (by omega), a 5 (by omega) (by omega), d 0 (by omega), d 2 (by omega), d 3 (by omega), d 4 (by omega), d 5 (by omega)]
  refine ⟨hE.1, fun k hk => ?_, hE.2.2⟩
  rw [b k hk]; exact hE.2.1 k hk
theorem fr_cl {σ σ' : Sto} {d : Nat} (hP : Phy σ) (hd : d < 6) (h1 : ∀ k, σ' 1 d k = σ 1 d k) (h9 : ∀ k, σ' 9 d k = σ 9 d k) (he : ∀ i, 24 * d ≤ i → i < 24 * d + 24 → ∀ c' k : Nat, c' = 0 ∨ c' = 2 ∨ c' = 10 → σ' c' i k = σ c' i k) : (ClOK σ d → ClOK σ' d) ∧ (SetOK σ d → SetOK σ' d) := by
  refine ⟨fun hC => cl_congr (h1 1) h9 (fun i hi c' k hc => ?_) hC, fun hS => ?_⟩
  · have := en_lt hP hd (show i < 24 by have := hC.1; unfold cn_ at hi; omega)
    exact he _ this.2.1 this.2.2 c' k hc
  · unfold SetOK; simp only [h1]; exact hS
theorem cldcp_cl {σ σ' : Sto} {c d : Nat} (hC : ClOK σ d) (h : CldCp σ σ' c d) : ClOK σ' c ∧ (SetOK σ d → SetOK σ' c) ∧ cn_ σ' c = cn_ σ d := by
  obtain ⟨a, b, f, -⟩ := h
  have e1 : cn_ σ' c = cn_ σ d := by unfold cn_; rw [a 1 (by omega) (by omega)]
  refine ⟨⟨by rw [a 1 (by omega) (by omega)]; exact hC.1, fun w hw => ?_⟩, fun hS => ?_, e1⟩
  · rw [e1] at hw
    have e2 : en σ' c w = en σ c w := by unfold en; rw [f 9 c w (by omega) (by omega)]
    rw [e2]
    exact enteq_ok (b w hw) (hC.2 w hw)
  · unfold SetOK
    rw [a 2 (by omega) (by omega), a 3 (by omega) (by omega), a 4 (by omega) (by omega), a 5 (by omega) (by omega), a 6 (by omega) (by omega), a 7 (by omega) (by omega)]
    exact hS
theorem cldcp_phy {σ σ' : Sto} {c d : Nat} (hP : Phy σ) (h : CldCp σ σ' c d) : Phy σ' := by
  obtain ⟨a, b, f, g⟩ := h
  have f9 : ∀ c' k, σ' 9 c' k = σ 9 c' k := fun c' k => f 9 c' k (by omega) (by omega)
  have f11 : ∀ c' k, σ' 11 c' k = σ 11 c' k := fun c' k => f 11 c' k (by omega) (by omega)
  exact ⟨boxp_b g hP.1, fun c hc j hj => by rw [f9]; exact hP.2.1 c hc j hj, fun c hc j hj j' hj' e => hP.2.2.1 c hc j hj j' hj' (by rw [← f9, ← f9]; exact e), fun j hj => by rw [f11]; exact hP.2.2.2.1 j hj, fun j hj j' hj' e => hP.2.2.2.2 j hj j' hj' (by rw [← f11, ← f11]; exact e)⟩
theorem savp_ci {σ τ : Sto} (h : CI σ) (hs : SavP σ τ 0) : CI τ := by
  obtain ⟨hP, hG, hC, hS, hn, hsv, hT, hm⟩ := h
  obtain ⟨a, b, g, s, s2, s6, se, sa, sb, f⟩ := hs
  have f9 : ∀ c' k, τ 9 c' k = σ 9 c' k := fun c' k => f 9 c' k (by omega) (by omega) (by omega) (by omega)
  have hsv2 : ∀ j : Nat, j < 4 → 2 ≤ τ 11 0 j ∧ τ 11 0 j < 6 := by
    intro j hj
    rw [b j hj]
    split
    · exact hP.2.2.2.1 j hj
    · split
      · exact hP.2.2.2.1 (j + 1) (by omega)
      · exact hP.2.2.2.1 0 (by omega)
  have inj : ∀ j, j < 4 → ∀ j', j' < 4 → τ 11 0 j = τ 11 0 j' → j = j' := by
    intro j hj j' hj' h
    rw [b j hj, b j' hj'] at h
    have inj := hP.2.2.2.2
    by_cases hlt : σ 3 0 1 < 4
    · rw [if_pos hlt, if_pos hlt] at h; exact inj j hj j' hj' h
    · rw [if_neg hlt, if_neg hlt] at h
      by_cases q1 : j < 3 <;> by_cases q2 : j' < 3
      · rw [if_pos q1, if_pos q2] at h; have := inj _ (by omega) _ (by omega) h; omega
      · rw [if_pos q1, if_neg q2] at h; have := inj _ (by omega) _ (by omega) h; omega
      · rw [if_neg q1, if_pos q2] at h; have := inj _ (by omega) _ (by omega) h; omega
      · omega
  have hPτ : Phy τ := ⟨boxp_b g hP.1, fun c hc j hj => by rw [f9]; exact hP.2.1 c hc j hj, fun c hc j hj j' hj' e => hP.2.2.1 c hc j hj j' hj' (by rw [← f9, ← f9]; exact e), hsv2, inj⟩
  have far : ∀ d, d < 6 → d ≠ s → (ClOK σ d → ClOK τ d) ∧ (SetOK σ d → SetOK τ d) := fun d hd hne => fr_cl hP hd (fun k => f 1 d k (by omega) (by omega) (by omega) (by omega)) (fun k => f9 d k) (fun i h1 h2 c' k hc => f c' i k (by omega) (by omega) (by omega) (by omega))
  have hn1 : 1 ≤ τ 3 0 1 ∧ τ 3 0 1 ≤ 4 := by rw [a]; split <;> omega
  refine ⟨hPτ, boxp_g g hG, (far 0 (by omega) (by omega)).1 hC, (far 0 (by omega) (by omega)).2 hS, by omega, fun j hj => ?_, ?_, by rw [f 4 0 5 (by omega) (by omega) (by omega) (by omega)]; exact hm⟩
  · by_cases q : (j : Int) = τ 3 0 1 - 1
    · have e : (τ 11 0 j).toNat = s := by rw [show j = (τ 3 0 1 - 1).toNat by omega, ← se]; omega
      rw [e]
      have e1 : cn_ τ s = cn_ σ 0 := by unfold cn_; rw [sa 1 (by omega) (by omega)]
      refine ⟨⟨by rw [sa 1 (by omega) (by omega)]; exact hC.1, fun w hw => ?_⟩, ?_⟩
      · rw [e1] at hw
        have e2 : en τ s w = en σ s w := by unfold en; rw [f9]
        rw [e2]
        exact enteq_ok (sb w hw) (hC.2 w hw)
      · unfold SetOK
        rw [sa 2 (by omega) (by omega), sa 3 (by omega) (by omega), sa 4 (by omega) (by omega), sa 5 (by omega) (by omega), sa 6 (by omega) (by omega), sa 7 (by omega) (by omega)]
        exact hS
    · have hne : (τ 11 0 j).toNat ≠ s := by
        intro e
        have h1 := hsv2 j (by omega)
        have h2 := hsv2 (τ 3 0 1 - 1).toNat (by omega)
        have := inj j (by omega) (τ 3 0 1 - 1).toNat (by omega) (by omega)
        omega
      have h1 := hsv2 j (by omega)
      have far' := far (τ 11 0 j).toNat (by omega) hne
      have hb := b j (by omega)
      by_cases hlt : σ 3 0 1 < 4
      · rw [if_pos hlt] at hb
        rw [if_pos hlt] at a
        have := hsv j (by omega)
        rw [hb] at far' ⊢
        exact ⟨far'.1 this.1, far'.2 this.2⟩
      · rw [if_neg hlt] at hb
        rw [if_neg hlt] at a
        rw [if_pos (by omega)] at hb
        have := hsv (j + 1) (by omega)
        rw [hb] at far' ⊢
        exact ⟨far'.1 this.1, far'.2 this.2⟩
  · unfold TxOK at hT ⊢
    have e1 := f 6 0 1 (by omega) (by omega) (by omega) (by omega)
    have e2 : ∀ k, τ 12 2 k = σ 12 2 k := fun k => f 12 2 k (by omega) (by omega) (by omega) (by omega)
    rw [e1]
    simp only [e2]
    exact hT
/-- what saving leaves of the cloud itself -/
theorem savp_0 {σ τ : Sto} (hP : Phy σ) (hs : SavP σ τ 0) : (∀ k, τ 1 0 k = σ 1 0 k) ∧ (∀ k, τ 9 0 k = σ 9 0 k) ∧ (∀ i, i < 48 → ∀ c' k : Nat, c' = 0 ∨ c' = 2 ∨ c' = 10 → τ c' i k = σ c' i k) := by
  obtain ⟨a, b, g, s, s2, s6, se, sa, sb, f⟩ := hs
  exact ⟨fun k => f 1 0 k (by omega) (by omega) (by omega) (by omega), fun k => f 9 0 k (by omega) (by omega) (by omega) (by omega), fun i hi c' k hc => f c' i k (by omega) (by omega) (by omega) (by omega)⟩
