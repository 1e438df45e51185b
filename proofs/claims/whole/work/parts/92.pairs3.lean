theorem mut_e {τ ρ : Sto} (hm : MSav (up3 τ 8 0 4 0) ρ) : ρ 8 0 4 = 0 ∧ ρ 14 0 0 = τ 14 0 0 := by
  obtain ⟨p, -, -, -, -, -, -, f⟩ := hm
  exact ⟨by rw [f 8 0 4 (by decide) (by decide), up_e], by rw [f 14 0 0 (by decide) (by decide), up_nc (by decide)]⟩
theorem sav_m {σ τ : Sto} (hs : SavP σ τ 0) : ∀ c i k : Nat, c = 8 ∨ c = 12 ∨ c = 14 → τ c i k = σ c i k := by
  obtain ⟨-, -, -, s, -, -, -, -, -, f⟩ := hs
  exact fun c i k h => f c i k (by omega) (by omega) (by omega) (by omega)
theorem mSV_of {σ τ : Sto} (f : ∀ k, τ 12 3 k = σ 12 3 k) : mS τ = mS σ ∧ mV τ = mV σ := ⟨by funext k; exact f _, by funext w k; exact f _⟩
theorem n8 {σ : Sto} (h : Cp σ) : 0 ≤ σ 8 0 3 ∧ σ 8 0 3 ≤ 4 := by
  have a := h.1.2.2.2.2.1
  have b := h.2.2.1.1
  omega
theorem pt_setWeight {σ : Sto} {w x : Int} (h : Cp σ) (hw : inR w) (hx : inR x) : PairT sp_L_setWeight sp_X8_setWeight [vr 7 0, vi w, vi x, vr 14 0] [vr 8 0, vi w, vi x] σ := by
  have cn := cpn h
  unfold PairT
  rw [sp_L_setWeight_e, sp_X7_setWeight_e]
  refine ⟨by decide, h.1, hw, hx, fun hr => kx_2a rfl ?_, fun hr hl => kx_2b (by decide) rfl ?_, fun hr hl τ hs => ?_⟩
  · unfold Aft
    rw [sp_X8_setWeight_e]
    exact ⟨by decide, cp_vok h, n8 h, hw, hx, fun _ => thr_e h (by decide), fun a => absurd a (by omega), fun a => absurd a (by omega)⟩
  · unfold Aft
    rw [sp_X8_setWeight_e]
    exact ⟨by decide, cp_vok h, n8 h, hw, hx, fun a => absurd a (by omega), fun _ _ => thr_e h (by decide), fun _ a => absurd a hl⟩
  · have hn := wlt h hr
    have b := word_r h hn
    have e : σ 2 (en σ 0 w.toNat) 3 = mV σ w.toNat 11 := eqw_k h.2.1.1 hn (k := 11) (by omega) (by omega)
    have hR : inR (σ 2 (en σ 0 w.toNat) 3) := r_s (by omega)
    refine ok_q (y := 0) hR ?_
    generalize hv : σ 2 (en σ 0 w.toNat) 3 = v at *
    have g : ∀ c i k : Nat, c = 8 ∨ c = 12 → (up3 (up3 τ 2 (en σ 0 w.toNat) 3 x) 14 0 0 v) c i k = σ c i k := fun c i k hc => by rw [up_nc (by omega), up_nc (by omega), sav_m hs c i k (by omega)]
    have gm := mSV_of (σ := σ) (τ := up3 (up3 τ 2 (en σ 0 w.toNat) 3 x) 14 0 0 v) (fun k => g 12 3 k (by omega))
    unfold Aft
    rw [sp_X8_setWeight_e, gm.1, gm.2, g 8 0 3 (by omega), g 12 3 5 (by omega)]
    refine ⟨by decide, cp_vok h, n8 h, hw, hx, fun a => absurd a (by omega), fun _ a => absurd hl a, fun _ _ ρ hm => ?_⟩
    have hm2 := mut_e hm
    refine ⟨_, rfl, r_s (by omega), ?_, ?_, fun _ => ?_⟩
    · rw [up_c14 (by decide)] at hm
      have ee : en (up3 σ 14 0 0 v) 0 w.toNat = en σ 0 w.toNat := by unfold en; rw [up_nc (by decide)]
      exact cp_weight (cp_14 (v := v) h) (by rw [up_nc (by decide)]; exact hr) hl (savp_14 hs) (by rw [ee]; exact hm)
    · rw [up_nc (by decide)]; exact hm2.1
    · rw [up_nc (by decide), hm2.2, up_e]; exact e
theorem pt_setKind {σ : Sto} {w x y : Int} (h : Cp σ) (hw : inR w) (hx : inR x) (hy : inR y) : PairT sp_L_setKind sp_X8_setKind [vr 7 0, vi w, vi x, vi y, vr 14 0] [vr 8 0, vi w, vi x, vi y] σ := by
  have cn := cpn h
  unfold PairT
  rw [sp_L_setKind_e, sp_X7_setKind_e]
  refine ⟨by decide, h.1, hw, hx, hy, fun hr => kx_2a rfl ?_, fun hr hl => kx_2b (by decide) rfl ?_, fun hr hl τ hs => ?_⟩
  · unfold Aft
    rw [sp_X8_setKind_e]
    exact ⟨by decide, cp_vok h, n8 h, hw, hx, hy, fun _ => thr_e h (by decide), fun a => absurd a (by omega), fun a => absurd a (by omega)⟩
  · unfold Aft
    rw [sp_X8_setKind_e]
    exact ⟨by decide, cp_vok h, n8 h, hw, hx, hy, fun a => absurd a (by omega), fun _ _ => thr_e h (by decide), fun _ a => absurd a hl⟩
  · have hn := wlt h hr
    have b := word_r h hn
    have e : σ 2 (en σ 0 w.toNat) 4 = mV σ w.toNat 12 := eqw_k h.2.1.1 hn (k := 12) (by omega) (by omega)
    have hR : inR (σ 2 (en σ 0 w.toNat) 4) := r_s (by omega)
    refine ok_q (y := 0) hR ?_
    generalize hv : σ 2 (en σ 0 w.toNat) 4 = v at *
    have g : ∀ c i k : Nat, c = 8 ∨ c = 12 → (up3 (up3 (up3 τ 2 (en σ 0 w.toNat) 4 x) 2 (en σ 0 w.toNat) 5 y) 14 0 0 v) c i k = σ c i k := fun c i k hc => by rw [up_nc (by omega), up_nc (by omega), up_nc (by omega), sav_m hs c i k (by omega)]
    have gm := mSV_of (σ := σ) (τ := up3 (up3 (up3 τ 2 (en σ 0 w.toNat) 4 x) 2 (en σ 0 w.toNat) 5 y) 14 0 0 v) (fun k => g 12 3 k (by omega))
    unfold Aft
    rw [sp_X8_setKind_e, gm.1, gm.2, g 8 0 3 (by omega), g 12 3 5 (by omega)]
    refine ⟨by decide, cp_vok h, n8 h, hw, hx, hy, fun a => absurd a (by omega), fun _ a => absurd hl a, fun _ _ ρ hm => ?_⟩
    have hm2 := mut_e hm
    refine ⟨_, rfl, r_s (by omega), ?_, ?_, fun _ => ?_⟩
    · rw [up_c14 (by decide), up_c14 (by decide)] at hm
      have ee : en (up3 σ 14 0 0 v) 0 w.toNat = en σ 0 w.toNat := by unfold en; rw [up_nc (by decide)]
      exact cp_kind (cp_14 (v := v) h) (by rw [up_nc (by decide)]; exact hr) hl (savp_14 hs) (by rw [ee]; exact hm)
    · rw [up_nc (by decide), up_nc (by decide)]; exact hm2.1
    · rw [up_nc (by decide), up_nc (by decide), hm2.2, up_e]; exact e
theorem pt_remove {σ : Sto} {w : Int} (h : Cp σ) (hw : inR w) : PairT sp_L_remove sp_X8_remove [vr 7 0, vi w, vr 14 0] [vr 8 0, vi w] σ := by
  have cn := cpn h
  unfold PairT
  rw [sp_L_remove_e, sp_X7_remove_e]
  refine ⟨by decide, h.1, hw, fun hr => kx_1 rfl ?_, fun hr τ τ' hs ht => ?_⟩
  · unfold Aft
    rw [sp_X8_remove_e]
    exact ⟨by decide, cp_vok h, n8 h, hw, fun _ => thr_e h (by decide), fun a => absurd a (by omega)⟩
  · have n := h.1.2.2.1.1
    have hR : inR (σ 1 0 1 - 1) := r_s (by omega)
    refine ok_q (y := 0) hR ?_
    generalize hv : σ 1 0 1 - 1 = v at *
    have g : ∀ c i k : Nat, c = 8 ∨ c = 12 → (up3 τ' 14 0 0 v) c i k = σ c i k := fun c i k hc => by rw [up_nc (by omega), ht.2.2.2.2 c i k (by omega) (by omega), sav_m hs c i k (by omega)]
    have gm := mSV_of (σ := σ) (τ := up3 τ' 14 0 0 v) (fun k => g 12 3 k (by omega))
    unfold Aft
    rw [sp_X8_remove_e, gm.1, gm.2, g 8 0 3 (by omega), g 12 3 5 (by omega)]
    refine ⟨by decide, cp_vok h, n8 h, hw, fun a => absurd a (by omega), fun _ ρ σ' hm hk => ?_⟩
    have hm2 := mut_e hm
    refine ⟨_, rfl, r_s (by omega), ?_, ?_, fun _ => ?_⟩
    · exact cp_remove (cp_14 (v := v) h) (by rw [up_nc (by decide)]; exact hr) (savp_14 hs) (takp_14 ht) hm hk
    · rw [hk.2.2.2 8 0 4 (by omega)]; exact hm2.1
    · rw [hk.2.2.2 14 0 0 (by omega), hm2.2, up_e]; omega
theorem pt_setCanvas {σ : Sto} {x y : Int} (h : Cp σ) (hx : inR x) (hy : inR y) : PairT sp_L_setCanvas sp_X8_setCanvas [vr 7 0, vi x, vi y, vr 14 0] [vr 8 0, vi x, vi y] σ := by
  unfold PairT
  rw [sp_L_setCanvas_e, sp_X7_setCanvas_e]
  refine ⟨by decide, h.1, hx, hy, fun hr => kx_1 rfl ?_, fun hr τ hs => ?_⟩
  · unfold Aft
    rw [sp_X8_setCanvas_e]
    exact ⟨by decide, n8 h, hx, hy, fun _ => thr_e h (by decide), fun a => absurd a hr⟩
  · have s := h.1.2.2.2.1.1
    have e : σ 1 0 2 = σ 12 3 0 := h.2.1.1.1 0 (by omega)
    have hR : inR (σ 1 0 2) := r_s (by omega)
    refine ok_q (y := 0) hR ?_
    generalize hv : σ 1 0 2 = v at *
    have g : ∀ c i k : Nat, c = 8 ∨ c = 12 → (up3 (up3 (up3 τ 1 0 2 x) 1 0 3 y) 14 0 0 v) c i k = σ c i k := fun c i k hc => by rw [up_nc (by omega), up_nc (by omega), up_nc (by omega), sav_m hs c i k (by omega)]
    unfold Aft
    rw [sp_X8_setCanvas_e, g 8 0 3 (by omega), g 12 3 0 (by omega)]
    refine ⟨by decide, n8 h, hx, hy, fun a => absurd hr a, fun _ ρ hm => ?_⟩
    have hm2 := mut_e hm
    refine ⟨_, rfl, r_s (by omega), ?_, ?_, fun _ => ?_⟩
    · rw [up_c14 (by decide), up_c14 (by decide)] at hm
      exact cp_canvas (cp_14 (v := v) h) hr (savp_14 hs) hm
    · rw [up_nc (by decide), up_nc (by decide)]; exact hm2.1
    · rw [up_nc (by decide), up_nc (by decide), hm2.2, up_e]; exact e
theorem pt_setWays {σ : Sto} {x y z : Int} (h : Cp σ) (hx : inR x) (hy : inR y) (hz : inR z) : PairT sp_L_setWays sp_X8_setWays [vr 7 0, vi x, vi y, vi z, vr 14 0] [vr 8 0, vi x, vi y, vi z] σ := by
  unfold PairT
  rw [sp_L_setWays_e, sp_X7_setWays_e]
  refine ⟨by decide, h.1, hx, hy, hz, fun hr => kx_1 rfl ?_, fun hr τ hs => ?_⟩
  · unfold Aft
    rw [sp_X8_setWays_e]
    exact ⟨by decide, n8 h, hx, hy, hz, fun _ => thr_e h (by decide), fun a => absurd a hr⟩
  · have s := h.1.2.2.2.1.2.2.1
    have e : σ 1 0 4 = σ 12 3 2 := h.2.1.1.1 2 (by omega)
    have hR : inR (σ 1 0 4) := r_s (by omega)
    refine ok_q (y := 0) hR ?_
    generalize hv : σ 1 0 4 = v at *
    have g : ∀ c i k : Nat, c = 8 ∨ c = 12 → (up3 (up3 (up3 (up3 τ 1 0 4 x) 1 0 5 y) 1 0 6 z) 14 0 0 v) c i k = σ c i k := fun c i k hc => by rw [up_nc (by omega), up_nc (by omega), up_nc (by omega), up_nc (by omega), sav_m hs c i k (by omega)]
    unfold Aft
    rw [sp_X8_setWays_e, g 8 0 3 (by omega), g 12 3 2 (by omega)]
    refine ⟨by decide, n8 h, hx, hy, hz, fun a => absurd hr a, fun _ ρ hm => ?_⟩
    have hm2 := mut_e hm
    refine ⟨_, rfl, r_s (by omega), ?_, ?_, fun _ => ?_⟩
    · rw [up_c14 (by decide), up_c14 (by decide), up_c14 (by decide)] at hm
      exact cp_ways (cp_14 (v := v) h) hr (savp_14 hs) hm
    · rw [up_nc (by decide), up_nc (by decide), up_nc (by decide)]; exact hm2.1
    · rw [up_nc (by decide), up_nc (by decide), up_nc (by decide), hm2.2, up_e]; exact e
theorem pt_undo {σ : Sto} (h : Cp σ) : PairT sp_L_undo sp_X8_undo [vr 7 0, vr 14 0] [vr 8 0] σ := by
  have e := h.2.2.1.1
  have n := n8 h
  unfold PairT
  rw [sp_L_undo_e, sp_X7_undo_e]
  refine ⟨by decide, h.1, fun hr => kx_1 rfl ?_, fun hr σ1 hc => ?_⟩
  · unfold Aft
    rw [sp_X8_undo_e]
    exact ⟨by decide, n, fun _ => thr_e h (by decide), fun a => absurd a (by omega)⟩
  · have hR : inR (σ 3 0 1 - 1) := r_s (by omega)
    refine ok_q (y := 0) hR ?_
    have f8 : σ1 8 0 3 = σ 8 0 3 := by rw [hc.2.2.1 8 0 3 (by omega) (by omega), up_nc (by decide)]
    have hc2 := cldcp_14 (v := σ 3 0 1 - 1) hc
    rw [up_c14 (by decide)] at hc2
    unfold Aft
    rw [sp_X8_undo_e]
    have f9 : (up3 σ1 14 0 0 (σ 3 0 1 - 1)) 8 0 3 = σ 8 0 3 := by rw [up_nc (by decide)]; exact f8
    refine ⟨by decide, by rw [f9]; exact n, fun a => absurd (by rw [f9] at a; omega) hr, fun _ σ' k3 k4 kA kF => ?_⟩
    have h14 : Cp (up3 σ 14 0 0 (σ 3 0 1 - 1)) := cp_14 h
    have q3 : (up3 σ 14 0 0 (σ 3 0 1 - 1)) 3 0 1 = σ 3 0 1 := up_nc (by decide)
    refine ⟨_, rfl, r_s (by rw [f9]; omega), ?_, k4, fun _ => ?_⟩
    · exact cp_undo h14 (by rw [q3]; exact hr) (by rw [q3, up_nc (by decide)]; exact hc2) k3 kA kF
    · rw [kF 14 0 0 (by omega) (by omega), up_e, f9]; omega
