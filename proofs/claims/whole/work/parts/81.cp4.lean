theorem vS_st {τ : Sto} {a : Nat} {x : Int} (ha : a < 5) (k : Nat) (hk : k < 7) : vS (up3 τ 1 0 (a + 2) x) 0 k = stS (vS τ 0) a x k := by
  unfold stS
  by_cases e : k = a
  · rw [if_pos e, e, vS_k ha, up_e]
  · rw [if_neg e]
    rcases Nat.lt_or_ge k 5 with q | q
    · rw [vS_k q, vS_k q, up_nj (by omega)]
    · rcases (show k = 5 ∨ k = 6 by omega) with z | z <;> subst z
      · rw [vS_5, vS_5, up_nj (by omega)]
      · rw [vS_6, vS_6, up_nj (by omega)]
theorem ci_set {τ : Sto} {a : Nat} {x : Int} (h : CI τ) (ha : a < 5) (hS : SetOK (up3 τ 1 0 (a + 2) x) 0) : CI (up3 τ 1 0 (a + 2) x) := by
  have g : ∀ c i k : Nat, (c ≠ 1 ∨ i ≠ 0 ∨ k ≠ a + 2) → up3 τ 1 0 (a + 2) x c i k = τ c i k := fun c i k hc => up_k (by omega)
  refine ci_0 h (phy_congr (fun c i k hc => g c i k (by omega)) h.1) (fun e he h0 => ?_) (cl_congr (g 1 0 1 (by omega)) (fun k => g 9 0 k (by omega)) (fun i _ c k hc => g c _ k (by omega)) h.2.2.1) hS (by rw [g 4 0 5 (by omega)]; exact h.2.2.2.2.2.2.2) (tx_congr (g 6 0 1 (by omega)) (fun k => g 12 2 k (by omega)) h.2.2.2.2.2.2.1) (by rw [g 3 0 1 (by omega)]; have := h.2.2.2.2.1; omega) (fun k => g 11 0 k (by omega)) (fun d _ _ k => ⟨g 1 d k (by omega), g 9 d k (by omega)⟩) (fun i a b c k hc => g c i k (by omega))
  rw [g 0 e _ (by omega)] at h0
  rw [g 0 e _ (by omega), g 0 e _ (by omega), g 0 e _ (by omega), g 0 e _ (by omega)]
  exact h.2.1 e he h0
/-- the settings of both set alike -/
theorem cp_sets {σ τ σ1 ρ σ' : Sto} {S : Nat → Int} (h : Cp σ) (hs : SavP σ τ 0) (hm : MSav (up3 σ1 8 0 4 0) ρ) (hI1 : CI σ1) (g1 : ∀ c i k : Nat, (c ≠ 1 ∨ i ≠ 0) → σ1 c i k = τ c i k) (f' : ∀ c i k : Nat, (c ≠ 12 ∨ i ≠ 3 ∨ 7 ≤ k) → σ' c i k = ρ c i k) (h5 : S 5 = mS σ 5) (hM : ∀ k, k < 7 → mS σ' k = S k) (hC : ∀ k, k < 7 → vS σ1 0 k = S k) : Cp σ' := by
  have v := savp_v h.1 hs
  have em := cp_sm (σ1 := σ1) hs hm (fun c i k hc => g1 c i k (by omega))
  have hV := cp_vok h
  have m24 := cp_n24 h
  have hIτ := savp_ci h.1 hs
  refine cp_fin h hs hm hI1 (fun c i k hc => g1 c i k (by omega)) (fun c i k hc _ => f' c i k (by omega)) (g1 3 0 1 (by omega)) (fun k => g1 11 0 k (by omega)) (fun d _ _ k => ⟨g1 1 d k (by omega), g1 9 d k (by omega)⟩) (fun i a b c k hc => g1 c i k (by omega)) (g1 6 0 1 (by omega)) ?_
  have fm : ∀ c i k : Nat, c ≠ 8 → c ≠ 12 → σ' c i k = σ1 c i k := fun c i k a b => by
    obtain ⟨p, _, _, _, _, _, _, f⟩ := hm
    rw [f' c i k (by omega), f c i k (by omega) (by omega), up_nc a]
  have eV : mV σ' = mV σ := by rw [← em.2]; funext o k; exact f' 12 3 _ (by omega)
  have enS : nS S = nS (mS σ) := by unfold nS; rw [h5]
  have en2 : nS (mS σ') = nS (mS σ) := by unfold nS; rw [hM 5 (by omega), h5]
  refine ⟨⟨fun k hk => ?_, fun o ho k hk => ?_⟩, by rw [en2, eV]; exact h.2.1.2⟩
  · rw [vS_c (σ := σ1) (fun k => fm 1 0 k (by omega) (by omega)), hC k hk, hM k hk]
  · rw [en2] at ho
    rw [eV] at hk ⊢
    have ho24 : o < 24 := by omega
    rw [vV_c (σ := σ1) hI1.1 (by omega) ho24 (fun k => fm 9 0 k (by omega) (by omega)) (fun i _ _ d k hd => fm d i k (by omega) (by omega)) k, vV_c (σ := τ) hIτ.1 (by omega) ho24 (fun k => g1 9 0 k (by omega)) (fun i _ _ d k hd => g1 d i k (by omega)) k, v.2.1 o ho24 k]
    exact h.2.1.1.2 o ho k hk
theorem cp_canvas {σ τ ρ : Sto} {x y : Int} (h : Cp σ) (hx : (10 ≤ x ∧ x ≤ 80) ∧ 10 ≤ y ∧ y ≤ 50) (hs : SavP σ τ 0) (hm : MSav (up3 (up3 (up3 τ 1 0 2 x) 1 0 3 y) 8 0 4 0) ρ) : Cp (up3 (up3 ρ 12 3 0 x) 12 3 1 y) := by
  have hIτ := savp_ci h.1 hs
  have v := savp_v h.1 hs
  have hsτ := hIτ.2.2.2.1
  have S1 : SetOK (up3 τ 1 0 (0 + 2) x) 0 := by
    unfold SetOK at hsτ ⊢
    rw [up_e, up_nj (by omega), up_nj (by omega), up_nj (by omega), up_nj (by omega), up_nj (by omega)]
    exact ⟨hx.1, hsτ.2⟩
  have I1 := ci_set hIτ (by omega) S1
  have S2 : SetOK (up3 (up3 τ 1 0 (0 + 2) x) 1 0 (1 + 2) y) 0 := by
    have e : ∀ k, k ≠ 3 → up3 (up3 τ 1 0 (0 + 2) x) 1 0 (1 + 2) y 1 0 k = up3 τ 1 0 (0 + 2) x 1 0 k := fun k hk => up_nj hk
    have e3 : up3 (up3 τ 1 0 (0 + 2) x) 1 0 (1 + 2) y 1 0 3 = y := up_e
    unfold SetOK at S1 ⊢
    rw [e 2 (by omega), e3, e 4 (by omega), e 5 (by omega), e 6 (by omega), e 7 (by omega)]
    exact ⟨S1.1, hx.2, S1.2.2⟩
  have I2 := ci_set I1 (by omega) S2
  have em := cp_sm (σ1 := up3 (up3 τ 1 0 2 x) 1 0 3 y) hs hm (fun c i k hc => by rw [up_k (by omega), up_k (by omega)])
  refine cp_sets (S := stS (stS (mS σ) 0 x) 1 y) h hs hm I2 (fun c i k hc => by rw [up_k (by omega), up_k (by omega)]) (fun c i k hc => by rw [up_k (by omega), up_k (by omega)]) (by simp [stS]) (fun k _ => by rw [mS_up, mS_up, em.1]) (fun k hk => ?_)
  rw [vS_st (a := 1) (by omega) k hk]
  unfold stS
  split
  · rfl
  · rw [vS_st (a := 0) (by omega) k hk]
    unfold stS
    split
    · rfl
    · rw [v.1 k]; exact h.2.1.1.1 k hk
theorem cp_ways {σ τ ρ : Sto} {x y z : Int} (h : Cp σ) (hx : (0 ≤ x ∧ x ≤ 3) ∧ (1 ≤ y ∧ y ≤ 4) ∧ 1 ≤ z ∧ z ≤ 8) (hs : SavP σ τ 0) (hm : MSav (up3 (up3 (up3 (up3 τ 1 0 4 x) 1 0 5 y) 1 0 6 z) 8 0 4 0) ρ) : Cp (up3 (up3 (up3 ρ 12 3 2 x) 12 3 3 y) 12 3 4 z) := by
  have hIτ := savp_ci h.1 hs
  have v := savp_v h.1 hs
  have hsτ := hIτ.2.2.2.1
  have S1 : SetOK (up3 τ 1 0 (2 + 2) x) 0 := by
    unfold SetOK at hsτ ⊢
    rw [up_nj (by omega), up_nj (by omega), up_e, up_nj (by omega), up_nj (by omega), up_nj (by omega)]
    exact ⟨hsτ.1, hsτ.2.1, hx.1, hsτ.2.2.2⟩
  have I1 := ci_set hIτ (by omega) S1
  have S2 : SetOK (up3 (up3 τ 1 0 (2 + 2) x) 1 0 (3 + 2) y) 0 := by
    have e : ∀ k, k ≠ 5 → up3 (up3 τ 1 0 (2 + 2) x) 1 0 (3 + 2) y 1 0 k = up3 τ 1 0 (2 + 2) x 1 0 k := fun k hk => up_nj hk
    have e3 : up3 (up3 τ 1 0 (2 + 2) x) 1 0 (3 + 2) y 1 0 5 = y := up_e
    unfold SetOK at S1 ⊢
    rw [e 2 (by omega), e 3 (by omega), e 4 (by omega), e3, e 6 (by omega), e 7 (by omega)]
    exact ⟨S1.1, S1.2.1, S1.2.2.1, hx.2.1, S1.2.2.2.2⟩
  have I2 := ci_set I1 (by omega) S2
  have S3 : SetOK (up3 (up3 (up3 τ 1 0 (2 + 2) x) 1 0 (3 + 2) y) 1 0 (4 + 2) z) 0 := by
    have e : ∀ k, k ≠ 6 → up3 (up3 (up3 τ 1 0 (2 + 2) x) 1 0 (3 + 2) y) 1 0 (4 + 2) z 1 0 k = up3 (up3 τ 1 0 (2 + 2) x) 1 0 (3 + 2) y 1 0 k := fun k hk => up_nj hk
    have e3 : up3 (up3 (up3 τ 1 0 (2 + 2) x) 1 0 (3 + 2) y) 1 0 (4 + 2) z 1 0 6 = z := up_e
    unfold SetOK at S2 ⊢
    rw [e 2 (by omega), e 3 (by omega), e 4 (by omega), e 5 (by omega), e3, e 7 (by omega)]
    exact ⟨S2.1, S2.2.1, S2.2.2.1, S2.2.2.2.1, hx.2.2, S2.2.2.2.2.2⟩
  have I3 := ci_set I2 (by omega) S3
  have em := cp_sm (σ1 := up3 (up3 (up3 τ 1 0 4 x) 1 0 5 y) 1 0 6 z) hs hm (fun c i k hc => by rw [up_k (by omega), up_k (by omega), up_k (by omega)])
  refine cp_sets (S := stS (stS (stS (mS σ) 2 x) 3 y) 4 z) h hs hm I3 (fun c i k hc => by rw [up_k (by omega), up_k (by omega), up_k (by omega)]) (fun c i k hc => by rw [up_k (by omega), up_k (by omega), up_k (by omega)]) (by simp [stS]) (fun k _ => by rw [mS_up, mS_up, mS_up, em.1]) (fun k hk => ?_)
  rw [vS_st (a := 4) (by omega) k hk]
  unfold stS
  split
  · rfl
  · rw [vS_st (a := 3) (by omega) k hk]
    unfold stS
    split
    · rfl
    · rw [vS_st (a := 2) (by omega) k hk]
      unfold stS
      split
      · rfl
      · rw [v.1 k]; exact h.2.1.1.1 k hk
/-- the words without word w -/
def rmV (V : Nat → Nat → Int) (w : Nat) : Nat → Nat → Int := fun o k => if o < w then V o k else V (o + 1) k
theorem vV_at {τ τ' : Sto} {o o' k : Nat} (hP : Phy τ) (ho' : o' < 24) (e : τ' 9 0 o = τ 9 0 o') (f : ∀ c i k : Nat, c = 0 ∨ c = 2 ∨ c = 10 → τ' c i k = τ c i k) : vV τ' 0 o k = vV τ 0 o' k := by
  have ee : en τ' 0 o = en τ 0 o' := by unfold en; rw [e]
  unfold vV
  rw [ee, f 2 _ _ (by omega), f 10 _ _ (by omega), f 2 _ _ (by omega), f 0 _ _ (by omega), f 0 _ _ (by omega), f 0 _ _ (by omega)]
theorem cp_remove {σ τ τ' ρ σ' : Sto} {w : Int} (h : Cp σ) (hw : 0 ≤ w ∧ w < σ 1 0 1) (hs : SavP σ τ 0) (ht : TakP τ τ' 0 w) (hm : MSav (up3 τ' 8 0 4 0) ρ) (hk : MTak ρ σ' w.toNat) : Cp σ' := by
  have hIτ := savp_ci h.1 hs
  have h0 := savp_0 h.1.1 hs
  have v := savp_v h.1 hs
  have n24 := h.1.2.2.1.1
  obtain ⟨t1, t2, t3, t4, t5⟩ := ht
  have e1 : τ 1 0 1 = σ 1 0 1 := h0.1 1
  rw [e1] at t1 t2 t3 t4
  have hPτ := hIτ.1
  have hCτ := hIτ.2.2.1
  have g : ∀ c i k : Nat, c ≠ 1 → c ≠ 9 → τ' c i k = τ c i k := fun c i k a b => t5 c i k (by omega) (by omega)
  have g9 : ∀ c, c ≠ 0 → ∀ k, τ' 9 c k = τ 9 c k := fun c hc k => t5 9 c k (by omega) (by omega)
  -- the new order is one of the old words each
  have perm : ∀ j, j < 24 → ∃ i, i < 24 ∧ τ' 9 0 j = τ 9 0 i ∧ ((j : Int) < σ 1 0 1 - 1 → i = (if (j : Int) < w then j else j + 1)) ∧ ((j : Int) = σ 1 0 1 - 1 → i = w.toNat) ∧ (σ 1 0 1 ≤ (j : Int) → i = j) := by
    intro j hj
    rcases (show (j : Int) < σ 1 0 1 - 1 ∨ (j : Int) = σ 1 0 1 - 1 ∨ σ 1 0 1 ≤ (j : Int) by omega) with q | q | q
    · refine ⟨if (j : Int) < w then j else j + 1, by split <;> omega, ?_, fun _ => rfl, fun z => by omega, fun z => by omega⟩
      rw [t2 j q]; split <;> rfl
    · exact ⟨w.toNat, by omega, t3 j q, fun z => by omega, fun _ => rfl, fun z => by omega⟩
    · exact ⟨j, hj, t4 j q, fun z => by omega, fun z => by omega, fun _ => rfl⟩
  have hP' : Phy τ' := by
    obtain ⟨p1, p2, p3, p4, p5⟩ := hPτ
    refine ⟨fun e he => ?_, fun c hc j hj => ?_, fun c hc j hj j' hj' e => ?_, fun j hj => by rw [g 11 0 j (by omega) (by omega)]; exact p4 j hj, fun j hj j' hj' e => p5 j hj j' hj' (by rw [g 11 0 j (by omega) (by omega), g 11 0 j' (by omega) (by omega)] at e; exact e)⟩
    · have := p1 e he
      unfold bx4 at this ⊢
      simp only [g 0 _ _ (show (0 : Nat) ≠ 1 by omega) (show (0 : Nat) ≠ 9 by omega)]
      exact this
    · by_cases c0 : c = 0
      · subst c0
        obtain ⟨i, hi, ei, -⟩ := perm j hj
        rw [ei]; exact p2 0 hc i hi
      · rw [g9 c c0]; exact p2 c hc j hj
    · by_cases c0 : c = 0
      · subst c0
        obtain ⟨i, hi, ei, a1, a2, a3⟩ := perm j hj
        obtain ⟨i', hi', ei', b1, b2, b3⟩ := perm j' hj'
        rw [ei, ei'] at e
        have := p3 0 hc i hi i' hi' e
        subst this
        rcases (show (j : Int) < σ 1 0 1 - 1 ∨ (j : Int) = σ 1 0 1 - 1 ∨ σ 1 0 1 ≤ (j : Int) by omega) with q | q | q <;> rcases (show (j' : Int) < σ 1 0 1 - 1 ∨ (j' : Int) = σ 1 0 1 - 1 ∨ σ 1 0 1 ≤ (j' : Int) by omega) with q' | q' | q'
        · have x1 := a1 q; have x2 := b1 q'
          split at x1 <;> split at x2 <;> omega
        · have x1 := a1 q; have x2 := b2 q'
          split at x1 <;> omega
        · have x1 := a1 q; have x2 := b3 q'
          split at x1 <;> omega
        · have x1 := a2 q; have x2 := b1 q'
          split at x2 <;> omega
        · omega
        · have x1 := a2 q; have x2 := b3 q'; omega
        · have x1 := a3 q; have x2 := b1 q'
          split at x2 <;> omega
        · have x1 := a3 q; have x2 := b2 q'; omega
        · have x1 := a3 q; have x2 := b3 q'; omega
      · rw [g9 c c0, g9 c c0] at e; exact p3 c hc j hj j' hj' e
  have f0 : ∀ c i k : Nat, c = 0 ∨ c = 2 ∨ c = 10 → τ' c i k = τ c i k := fun c i k hc => g c i k (by omega) (by omega)
  have word : ∀ o : Nat, (o : Int) < σ 1 0 1 - 1 → ∃ i : Nat, i = (if (o : Int) < w then o else o + 1) ∧ (i : Int) < σ 1 0 1 ∧ i < 24 ∧ τ' 9 0 o = τ 9 0 i := by
    intro o ho
    refine ⟨if (o : Int) < w then o else o + 1, rfl, by split <;> omega, by split <;> omega, ?_⟩
    rw [t2 o ho]; split <;> rfl
  have s1 : ∀ k, k ≠ 1 → τ' 1 0 k = τ 1 0 k := fun k hk => t5 1 0 k (by omega) (by omega)
  have hI' : CI τ' := by
    refine ci_0 hIτ hP' (fun e he hh => ?_) ⟨by rw [t1]; omega, fun o ho => ?_⟩ ?_ (by rw [g 4 0 5 (by omega) (by omega)]; exact hIτ.2.2.2.2.2.2.2) (tx_congr (g 6 0 1 (by omega) (by omega)) (fun k => g 12 2 k (by omega) (by omega)) hIτ.2.2.2.2.2.2.1) (by rw [g 3 0 1 (by omega) (by omega)]; have := hIτ.2.2.2.2.1; omega) (fun k => g 11 0 k (by omega) (by omega)) (fun d a b k => ⟨t5 1 d k (by omega) (by omega), g9 d (by omega) k⟩) (fun i _ _ c k hc => f0 c i k hc)
    · simp only [f0 0 _ _ (Or.inl rfl)] at hh ⊢
      exact hIτ.2.1 e he hh
    · have ho' : (o : Int) < σ 1 0 1 - 1 := by unfold cn_ at ho; rw [t1] at ho; omega
      obtain ⟨i, ei, hi, hi24, e9⟩ := word o ho'
      have ee : en τ' 0 o = en τ 0 i := by unfold en; rw [e9]
      rw [ee]
      exact ent_congr (fun c k hc => f0 c _ k hc) (hCτ.2 i (by unfold cn_; rw [e1]; omega))
    · have := hIτ.2.2.2.1
      unfold SetOK at this ⊢
      rw [s1 2 (by omega), s1 3 (by omega), s1 4 (by omega), s1 5 (by omega), s1 6 (by omega), s1 7 (by omega)]
      exact this
  have em := cp_sm (σ1 := τ') hs hm (fun c i k hc => g c i k (by omega) (by omega))
  obtain ⟨k5, kS, kV, kF⟩ := hk
  refine cp_fin h hs hm hI' (fun c i k hc => g c i k (by omega) (by omega)) (fun c i k hc _ => kF c i k (by omega)) (g 3 0 1 (by omega) (by omega)) (fun k => g 11 0 k (by omega) (by omega)) (fun d _ _ k => ⟨t5 1 d k (by omega) (by omega), g9 d (by omega) k⟩) (fun i _ _ c k hc => f0 c i k hc) (g 6 0 1 (by omega) (by omega)) ?_
  have hV := cp_vok h
  have m24 := cp_n24 h
  have fm : ∀ c i k : Nat, c ≠ 8 → c ≠ 12 → σ' c i k = τ' c i k := fun c i k a b => by
    obtain ⟨p, _, _, _, _, _, _, f⟩ := hm
    rw [kF c i k (by omega), f c i k (by omega) (by omega), up_nc a]
  have q5 : mS σ 5 = σ 1 0 1 := (h.2.1.1.1 5 (by omega)).symm
  have r5 : ρ 12 3 5 = σ 1 0 1 := by rw [← q5, ← em.1]; rfl
  have eS : ∀ k, k < 7 → mS σ' k = (if k = 5 then σ 1 0 1 - 1 else mS σ k) := fun k hk => by
    by_cases c : k = 5
    · subst c; rw [if_pos rfl]; show σ' 12 3 5 = _; rw [k5, r5]
    · rw [if_neg c, ← em.1]; exact kS k hk c
  have enn : (nS (mS σ) : Int) = σ 1 0 1 := by unfold nS; rw [q5]; omega
  have en2 : (nS (mS σ') : Int) = σ 1 0 1 - 1 := by unfold nS; rw [eS 5 (by omega), if_pos rfl]; omega
  have eV : ∀ o, o < nS (mS σ') → ∀ k, k < 19 → mV σ' o k = mV σ (if (o : Int) < w then o else o + 1) k := fun o ho k hk => by
    rw [kV o k (by rw [r5]; omega) hk, em.2]
    by_cases c : (o : Int) < w
    · rw [if_pos (by omega), if_pos c]
    · rw [if_neg (by omega), if_neg c]
  refine ⟨⟨fun k hk => ?_, fun o ho k hk => ?_⟩, ?_⟩
  · rw [vS_c (σ := τ') (fun k => fm 1 0 k (by omega) (by omega)), eS k hk]
    by_cases c : k = 5
    · subst c; rw [if_pos rfl, vS_5]; exact t1
    · rw [if_neg c, ← h.2.1.1.1 k hk, ← v.1 k]
      rcases (show k = 0 ∨ k = 1 ∨ k = 2 ∨ k = 3 ∨ k = 4 ∨ k = 6 by omega) with z | z | z | z | z | z <;> subst z
      · exact s1 2 (by omega)
      · exact s1 3 (by omega)
      · exact s1 4 (by omega)
      · exact s1 5 (by omega)
      · exact s1 6 (by omega)
      · exact s1 7 (by omega)
  · obtain ⟨i, ei, hi, hi24, e9⟩ := word o (by omega)
    rw [vV_c (σ := τ') hP' (by omega) (by omega) (fun k => fm 9 0 k (by omega) (by omega)) (fun i _ _ d k hd => fm d i k (by omega) (by omega)) k, vV_at hPτ hi24 e9 f0, v.2.1 i hi24 k]
    rw [eV o ho 0 (by omega), ← ei] at hk
    rw [eV o ho k (by omega), ← ei]
    exact h.2.1.1.2 i (by omega) k hk
  · intro o o' ho ho' hsm
    obtain ⟨i, ei, hi, hi24, e9⟩ := word o (by omega)
    obtain ⟨i', ei', hi', hi24', e9'⟩ := word o' (by omega)
    have : i = i' := by
      refine h.2.1.2 i i' (by omega) (by omega) ?_
      obtain ⟨a, b⟩ := hsm
      rw [eV o ho 0 (by omega), eV o' ho' 0 (by omega), ← ei, ← ei'] at a
      refine ⟨a, fun k hk => ?_⟩
      have h10 := (hV.2 i (by omega)).1
      have := b k (by rw [eV o ho 0 (by omega), ← ei]; exact hk)
      rw [eV o ho (1 + k) (by omega), eV o' ho' (1 + k) (by omega), ← ei, ← ei'] at this
      exact this
    subst this
    rw [ei] at ei'
    split at ei' <;> split at ei' <;> omega
