theorem eqw_pt {S S' T : Nat → Int} {V V' U : Nat → Nat → Int} (h : EqW S V S' V') (h1 : ∀ k, k < 7 → T k = S' k) (h2 : ∀ w, w < nS S → ∀ k, k < 19 → U w k = V' w k) : EqW S V T U := eqw_tr h (fun _ _ => rfl) (fun _ _ _ _ => rfl) h1 h2
theorem cp_lay {σ τ σ1 ρ σ' : Sto} {kp : Int} {z z' : Nat → Nat → Int} (h : Cp σ) (hs : SavP σ τ 0) (hz : OutZ (vS τ 0) (vV τ 0) kp z) (hL : LayA τ σ1 0 z) (hm : MSav (up3 σ1 8 0 4 0) ρ) (hz' : OutZ (mS σ1) (mV σ1) kp z') (hM : LayM ρ σ' z') : Cp σ' ∧ ct (fun w => 0 < z w 2) (cn_ τ 0) = ct (fun w => 0 < z' w 2) (nS (mS σ1)) := by
  have hIτ := savp_ci h.1 hs
  have v := savp_v h.1 hs
  obtain ⟨⟨fA, lP, lC, lS, l45, lB⟩, hMat, hmov⟩ := hL
  have fr : ∀ c i k : Nat, (c ≠ 0 ∨ (i ≠ 144 ∧ 24 ≤ i)) → (c ≠ 4 ∨ i ≠ 0 ∨ (k ≠ 4 ∧ k ≠ 5)) → (c ≠ 5 ∨ i ≠ 0) → (c ≠ 12 ∨ (i ≠ 0 ∧ i ≠ 1)) → (c ≠ 1 ∨ i ≠ 0 ∨ k ≠ 7) → σ1 c i k = τ c i k := fun c i k a b d e f => fA c i k (by omega) b d e f
  have m1 : ∀ c i k : Nat, c = 8 ∨ (c = 12 ∧ 2 ≤ i) → σ1 c i k = τ c i k := fun c i k hc => fr c i k (by omega) (by omega) (by omega) (by omega) (by omega)
  have em := cp_sm (σ1 := σ1) hs hm m1
  have sm := savp_m hs
  have e1 : mS σ1 = mS σ := funext fun k => by show σ1 12 3 k = σ 12 3 k; rw [m1 12 3 k (by omega), sm 12 3 k (by omega)]
  have e2 : mV σ1 = mV σ := funext fun w => funext fun k => by show σ1 12 3 _ = σ 12 3 _; rw [m1 12 3 _ (by omega), sm 12 3 _ (by omega)]
  have m24 := cp_n24 h
  have hV := cp_vok h
  have hE : EqW (mS σ) (mV σ) (vS τ 0) (vV τ 0) := eqw_pt h.2.1.1 (fun k _ => v.1 k) (fun w hw k _ => v.2.1 w (by omega) k)
  rw [e1, e2] at hz'
  have ez := OutZ_u ((eqw_out hE).mp hz) hz'
  subst ez
  have enn : nS (vS τ 0) = nS (mS σ) := eqw_n hE
  have ecn : cn_ τ 0 = nS (mS σ) := enn
  refine ⟨?_, by rw [e1, ecn]⟩
  have hI1 : CI σ1 := ci_0 hIτ lP lB lC lS l45 (tx_congr (fr 6 0 1 (by omega) (by omega) (by omega) (by omega) (by omega)) (fun k => fr 12 2 k (by omega) (by omega) (by omega) (by omega) (by omega)) hIτ.2.2.2.2.2.2.1) (by rw [fr 3 0 1 (by omega) (by omega) (by omega) (by omega) (by omega)]; have := hIτ.2.2.2.2.1; omega) (fun k => fr 11 0 k (by omega) (by omega) (by omega) (by omega) (by omega)) (fun d a b k => ⟨fr 1 d k (by omega) (by omega) (by omega) (by omega) (by omega), fr 9 d k (by omega) (by omega) (by omega) (by omega) (by omega)⟩) (fun i a b c k hc => fr c i k (by omega) (by omega) (by omega) (by omega) (by omega))
  obtain ⟨M1, M2, M3, M4, M5, M6⟩ := hM
  refine cp_fin h hs hm hI1 m1 (fun c i k a b => M4 c i k (by omega) b) (fr 3 0 1 (by omega) (by omega) (by omega) (by omega) (by omega)) (fun k => fr 11 0 k (by omega) (by omega) (by omega) (by omega) (by omega)) (fun d a b k => ⟨fr 1 d k (by omega) (by omega) (by omega) (by omega) (by omega), fr 9 d k (by omega) (by omega) (by omega) (by omega) (by omega)⟩) (fun i a b c k hc => fr c i k (by omega) (by omega) (by omega) (by omega) (by omega)) (fr 6 0 1 (by omega) (by omega) (by omega) (by omega) (by omega)) ?_
  have fm : ∀ c i k : Nat, c ≠ 8 → c ≠ 12 → σ' c i k = σ1 c i k := fun c i k a b => by
    obtain ⟨p, _, _, _, _, _, _, f⟩ := hm
    rw [M4 c i k (by omega) (by omega), f c i k (by omega) (by omega), up_nc a]
  rw [em.1, em.2] at M2
  rw [em.1, em.2] at M3
  have k5 : ∀ k, k < 6 → mS σ' k = mS σ k := fun k hk => by show σ' 12 3 k = _; rw [M1 k hk]; exact congrFun em.1 k
  have en2 : nS (mS σ') = nS (mS σ) := by unfold nS; rw [k5 5 (by omega)]
  have s1 : ∀ k, k ≠ 7 → σ1 1 0 k = τ 1 0 k := fun k hk => fr 1 0 k (by omega) (by omega) (by omega) (by omega) (by omega)
  refine ⟨⟨fun k hk => ?_, fun o ho k hk => ?_⟩, ?_⟩
  · rw [vS_c (σ := σ1) (fun k => fm 1 0 k (by omega) (by omega))]
    by_cases c : k = 6
    · subst c
      show σ1 1 0 7 = σ' 12 3 6
      rw [hmov, M2]
      exact eqw_mov hE
    · rw [k5 k (by omega), ← hE.1 k hk]
      rcases (show k = 0 ∨ k = 1 ∨ k = 2 ∨ k = 3 ∨ k = 4 ∨ k = 5 by omega) with q | q | q | q | q | q <;> subst q
      · exact s1 2 (by omega)
      · exact s1 3 (by omega)
      · exact s1 4 (by omega)
      · exact s1 5 (by omega)
      · exact s1 6 (by omega)
      · exact s1 1 (by omega)
  · rw [en2] at ho
    have ho24 : o < 24 := by omega
    rw [vV_c (σ := σ1) hI1.1 (by omega) ho24 (fun k => fm 9 0 k (by omega) (by omega)) (fun i _ _ d k hd => fm d i k (by omega) (by omega)) k]
    have ee : en σ1 0 o = en τ 0 o := by unfold en; rw [fr 9 0 o (by omega) (by omega) (by omega) (by omega) (by omega)]
    obtain ⟨w1, w2⟩ := M3 o ho
    by_cases c14 : k < 14
    · rw [w1 0 (by omega)] at hk
      rw [w1 k c14, ← hE.2 o ho k hk]
      unfold vV
      rw [ee, fr 2 _ _ (by omega) (by omega) (by omega) (by omega) (by omega), fr 10 _ _ (by omega) (by omega) (by omega) (by omega) (by omega), fr 2 _ _ (by omega) (by omega) (by omega) (by omega) (by omega)]
      by_cases c0 : k = 0
      · rw [if_pos c0, if_pos c0]
      · rw [if_neg c0, if_neg c0]
        by_cases c1 : k < 11
        · rw [if_pos c1, if_pos c1]
        · rw [if_neg c1, if_neg c1, if_pos c14, if_pos c14]
    · have hk19 : k < 19 := by omega
      have q := w2 (k - 14) (by omega)
      rw [show 14 + (k - 14) = k by omega] at q
      rw [q, vV_hi (by omega), ee]
      obtain ⟨a, b, -⟩ := hMat o (by rw [ecn]; exact ho)
      by_cases hp : 0 < z o 2
      · obtain ⟨a0, a2, a3, a4, a5, a1⟩ := a hp
        rw [if_pos a0]
        rcases (show k = 14 ∨ k = 15 ∨ k = 16 ∨ k = 17 ∨ k = 18 by omega) with q | q | q | q | q <;> subst q
        · rw [if_neg (by omega)]; exact a2
        · rw [if_neg (by omega)]; exact a3
        · rw [if_neg (by omega)]; exact a4
        · rw [if_neg (by omega)]; exact a5
        · rw [if_pos rfl]; exact a1
      · obtain ⟨b0, b1⟩ := b hp
        rw [if_neg (by omega)]
        exact (b1 _).symm
  · rw [en2]
    exact dis_c h.2.1.2 (fun o ho => by have := (hV.2 o ho).1; omega) (fun o ho k hk => (M3 o ho).1 k (by omega))
theorem cp_undo {σ σ1 σ' : Sto} (h : Cp σ) (hn : σ 3 0 1 ≠ 0) (hc : CldCp (up3 σ 3 0 1 (σ 3 0 1 - 1)) σ1 0 (σ 11 0 (σ 3 0 1 - 1).toNat).toNat) (k3 : σ' 8 0 3 = σ1 8 0 3 - 1) (kA : ∀ k, k < 463 → σ' 12 3 k = σ1 12 4 (463 * (σ1 8 0 3 - 1).toNat + k)) (kF : ∀ c i k : Nat, (c ≠ 8 ∨ i ≠ 0 ∨ (k ≠ 3 ∧ k ≠ 4)) → (c ≠ 12 ∨ i ≠ 3) → σ' c i k = σ1 c i k) : Cp σ' := by
  have n4 := h.1.2.2.2.2.1
  obtain ⟨j, hj⟩ : ∃ j : Nat, σ 3 0 1 = j + 1 := ⟨(σ 3 0 1 - 1).toNat, by omega⟩
  have ej : (σ 3 0 1 - 1).toNat = j := by omega
  rw [ej] at hc
  obtain ⟨c, ec⟩ : ∃ c, c = (σ 11 0 j).toNat := ⟨_, rfl⟩
  rw [← ec] at hc
  have hP := h.1.1
  have r1 := hP.2.2.2.1 j (by omega)
  have hsv := h.1.2.2.2.2.2.1 j (by omega)
  rw [← ec] at hsv
  have hcp := h.2.2.1.2 j (by omega)
  unfold SvC at hcp
  rw [← ec] at hcp
  obtain ⟨τ, hτ⟩ : ∃ τ, τ = up3 σ 3 0 1 (σ 3 0 1 - 1) := ⟨_, rfl⟩
  rw [← hτ] at hc
  have t : ∀ c i k : Nat, c ≠ 3 → τ c i k = σ c i k := fun c i k a => by rw [hτ, up_nc a]
  have hPτ : Phy τ := phy_congr (fun c i k hc => t c i k (by omega)) hP
  have hCτ : ClOK τ c := cl_congr (t 1 c 1 (by omega)) (fun k => t 9 c k (by omega)) (fun i _ d k hd => t d _ k (by omega)) hsv.1
  have hSτ : SetOK τ c := by
    have := hsv.2
    unfold SetOK at this ⊢
    simp only [t 1 _ _ (show (1 : Nat) ≠ 3 by omega)]
    exact this
  have hGτ : BxG τ := by
    intro e he h0
    simp only [t 0 _ _ (show (0 : Nat) ≠ 3 by omega)] at h0 ⊢
    exact h.1.2.1 e he h0
  have fc := hc.2.2.1
  have g : ∀ c' i k : Nat, (c' ≠ 1 ∨ i ≠ 0) → ((c' ≠ 2 ∧ c' ≠ 10 ∧ c' ≠ 0) ∨ 24 ≤ i) → c' ≠ 3 → σ1 c' i k = σ c' i k := fun c' i k a b d => by rw [fc c' i k a (by omega), t c' i k d]
  have s3 : σ1 3 0 1 = j := by rw [fc 3 0 1 (by omega) (by omega), hτ, up_e]; omega
  have hcl := cldcp_cl hCτ hc
  have hI1 : CI σ1 := ci_0 h.1 (cldcp_phy hPτ hc) (boxp_g hc.2.2.2 hGτ) hcl.1 (hcl.2.1 hSτ) (by rw [g 4 0 5 (by omega) (by omega) (by omega)]; exact h.1.2.2.2.2.2.2.2) (tx_congr (g 6 0 1 (by omega) (by omega) (by omega)) (fun k => g 12 2 k (by omega) (by omega) (by omega)) h.1.2.2.2.2.2.2.1) (by rw [s3]; omega) (fun k => g 11 0 k (by omega) (by omega) (by omega)) (fun d a b k => ⟨g 1 d k (by omega) (by omega) (by omega), g 9 d k (by omega) (by omega) (by omega)⟩) (fun i a b d k hd => g d i k (by omega) (by omega) (by omega))
  have F : ∀ c i k : Nat, c ≠ 8 → (c ≠ 12 ∨ i ≠ 3) → σ' c i k = σ1 c i k := fun c i k a b => kF c i k (by omega) b
  have q8 : σ1 8 0 3 = j + 1 := by rw [g 8 0 3 (by omega) (by omega) (by omega), ← h.2.2.1.1]; exact hj
  have eS : ∀ k, k < 463 → σ' 12 3 k = σ 12 4 (463 * j + k) := fun k hk => by rw [kA k hk, q8, show ((j : Int) + 1 - 1).toNat = j by omega, g 12 4 _ (by omega) (by omega) (by omega)]
  have hV2 := sv_vok h (j := j) (by omega)
  have n2 := vok_24 hV2
  have vw := cld_view hc
  have hE2 : EqW (vS σ c) (vV σ c) (vS σ1 0) (vV σ1 0) := by
    have e0 : ∀ k, vS τ c k = vS σ c k := vS_c (fun k => t 1 c k (by omega))
    have e1 : ∀ w, w < 24 → ∀ k, vV τ c w k = vV σ c w k := fun w hw => vV_c hP (by omega) hw (fun k => t 9 c k (by omega)) (fun i _ _ d k hd => t d i k (by omega))
    have en2 : cn_ τ c = cn_ σ c := by unfold cn_; rw [t 1 c 1 (by omega)]
    have n24 : cn_ σ c ≤ 24 := by have := hsv.1.1; unfold cn_; omega
    refine ⟨fun k _ => by rw [vw.1 k, e0], fun w hw k hk => ?_⟩
    have hw' : w < cn_ σ c := hw
    rw [vw.2 w (by rw [en2]; exact hw') k (by rw [e1 w (by omega) 0]; exact hk), e1 w (by omega) k]
  have e7 : ∀ k, k < 7 → mS σ' k = sS σ j k := fun k hk => eS k (by omega)
  have e19 : ∀ w, w < nS (sS σ j) → ∀ k, k < 19 → mV σ' w k = sV σ j w k := fun w hw k hk => eS _ (by omega)
  have en2 : nS (mS σ') = nS (sS σ j) := by unfold nS; rw [e7 5 (by omega)]
  refine ⟨ci_m hI1 (fun c i k a b => F c i k a (by omega)), ⟨?_, ?_⟩, ⟨by rw [F 3 0 1 (by omega) (by omega), s3, k3, q8]; omega, fun i hi => ?_⟩, ?_, fun k hk => ?_⟩
  · refine eqw_tr (eqw_trans hcp.1 hE2) e7 e19 (fun k _ => vS_c (fun k => F 1 0 k (by omega) (by omega)) k) (fun w hw k _ => ?_)
    exact vV_c hI1.1 (by omega) (by omega) (fun k => F 9 0 k (by omega) (by omega)) (fun i _ _ d k hd => F d i k (by omega) (by omega)) k
  · rw [en2]
    exact dis_c hcp.2 (fun w hw => by have := (hV2.2 w hw).1; omega) (fun w hw k hk => e19 w hw k (by omega))
  · rw [F 3 0 1 (by omega) (by omega), s3] at hi
    have hs := h.2.2.1.2 i (by omega)
    have hV3 := sv_vok h (j := i) (by omega)
    have n3 := vok_24 hV3
    have r2 := hP.2.2.2.1 i (by omega)
    unfold SvC
    rw [F 11 0 i (by omega) (by omega), g 11 0 i (by omega) (by omega) (by omega)]
    have x1 : sS σ' i = sS σ i := funext fun k => by show σ' 12 4 _ = σ 12 4 _; rw [F 12 4 _ (by omega) (by omega), g 12 4 _ (by omega) (by omega) (by omega)]
    have x2 : sV σ' i = sV σ i := funext fun w => funext fun k => by show σ' 12 4 _ = σ 12 4 _; rw [F 12 4 _ (by omega) (by omega), g 12 4 _ (by omega) (by omega) (by omega)]
    rw [x1, x2]
    refine ⟨eqw_pt hs.1 (fun k _ => vS_c (fun k => by rw [F 1 _ k (by omega) (by omega), g 1 _ k (by omega) (by omega) (by omega)]) k) (fun w hw k _ => ?_), hs.2⟩
    exact vV_c hP (by omega) (by omega) (fun k => by rw [F 9 _ k (by omega) (by omega), g 9 _ k (by omega) (by omega) (by omega)]) (fun i _ _ d k hd => by rw [F d i k (by omega) (by omega), g d i k (by omega) (by omega) (by omega)]) k
  · rw [F 6 0 1 (by omega) (by omega), g 6 0 1 (by omega) (by omega) (by omega), kF 8 0 12 (by omega) (by omega), g 8 0 12 (by omega) (by omega) (by omega)]
    exact h.2.2.2.1
  · rw [F 12 2 k (by omega) (by omega), g 12 2 k (by omega) (by omega) (by omega), F 12 11 k (by omega) (by omega), g 12 11 k (by omega) (by omega) (by omega)]
    exact h.2.2.2.2 k hk
