/-- the model's answer behind a laying that it undid -/
theorem qu_e {τ ρ : Sto} {x y : Int} (h : Cp τ) (hx : inR x) (e : y = x) (hq : MQu (up3 τ 14 0 0 x) ρ 0) : ∃ v, (some (vi y) : Option AV) = some (vi v) ∧ inR v ∧ Cp ρ ∧ ρ 8 0 4 = 0 ∧ ((0 : Int) = 0 → ρ 14 0 0 = v) := by
  subst e
  exact ⟨y, rfl, hx, cp_qu (cp_14 h) hq, hq.1, fun _ => by rw [hq.2.2 14 0 0 (by decide) (by decide), up_e]⟩
theorem pt_wordAt {σ : Sto} {x y : Int} (h : Cp σ) (hx : inR x) (hy : inR y) : PairT sp_L_wordAt sp_X8_wordAt [vr 7 0, vi x, vi y, vr 14 0] [vr 8 0, vi x, vi y] σ := by
  unfold PairT
  rw [sp_L_wordAt_e, sp_X7_wordAt_e]
  refine ⟨by decide, h.1, hx, hy, fun hr => kx_1 rfl ?_, fun hr r hf => ?_⟩
  · unfold Aft
    rw [sp_X8_wordAt_e]
    exact ⟨by decide, cp_vok h, hx, hy, fun _ => thr_e h (by decide), fun a => absurd a hr⟩
  · have n24 := cp_n24 h
    rw [cpn2 h] at hf
    have hf2 := ff_c (fun i hi => eqw_cv h.2.1.1 hi) hf
    have hR : inR r := by
      rcases hf with ⟨e, -⟩ | ⟨i, hi, e, -⟩
      · exact r_s (by omega)
      · exact r_s (by omega)
    refine ok_q (y := 0) hR ?_
    unfold Aft
    rw [sp_X8_wordAt_e, mS_14 fr_14, mV_14 fr_14]
    exact ⟨by decide, cp_vok h, hx, hy, fun a => absurd hr a, fun _ r' hf' => ans_e h hR (ff_u hf' hf2)⟩
theorem pt_extent {σ : Sto} {x : Int} (h : Cp σ) (hx : inR x) : PairT sp_L_extent sp_X8_extent [vr 7 0, vi x, vr 14 0] [vr 8 0, vi x] σ := by
  unfold PairT
  rw [sp_L_extent_e, sp_X7_extent_e]
  refine ⟨by decide, h.1, hx, fun hr => kx_1 rfl ?_, fun hr σ' hf => ?_⟩
  · unfold Aft
    rw [sp_X8_extent_e]
    exact ⟨by decide, cp_vok h, hx, fun _ => thr_e h (by decide), fun a => absurd a hr⟩
  · have e := eqw_ext h.2.1.1 (x := x)
    have hR : inR (extV (vS σ 0) (vV σ 0) x) := by
      unfold extV
      have s := h.1.2.2.2.1
      unfold SetOK at s
      split
      · have c := celN_r (S := vS σ 0) (V := vV σ 0) (show 0 ≤ σ 1 0 2 ∧ σ 1 0 2 ≤ 80 by omega) (vS σ 0 1).toNat
        have : (vS σ 0 1).toNat ≤ 50 := by show (σ 1 0 3).toNat ≤ 50; omega
        exact r_s (by omega)
      · have c := exV_r h.1 (x := x) (nS (vS σ 0)) (Nat.le_refl _)
        exact r_s (by omega)
    have h' := cp_13 h hf
    have m1 : mS σ' = mS σ := by funext k; exact hf 12 3 _ (by decide)
    have m2 : mV σ' = mV σ := by funext w k; exact hf 12 3 _ (by decide)
    refine ok_q (y := 0) hR ?_
    unfold Aft
    rw [sp_X8_extent_e, mS_14 fr_14, mV_14 fr_14, m1, m2]
    exact ⟨by decide, cp_vok h, hx, fun a => absurd hr a, fun _ => ans_e h' hR e.symm⟩
theorem pt_spread {σ : Sto} {x : Int} (h : Cp σ) (hx : inR x) : PairT sp_L_spread sp_X8_spread [vr 7 0, vi x, vr 14 0] [vr 8 0, vi x] σ := by
  unfold PairT
  rw [sp_L_spread_e, sp_X7_spread_e]
  refine ⟨by decide, h.1, hx, fun hr => kx_1 rfl ?_, fun hr m hm => ?_⟩
  · unfold Aft
    rw [sp_X8_spread_e]
    exact ⟨by decide, cp_vok h, hx, fun _ => thr_e h (by decide), fun a => absurd a hr⟩
  · have hR : inR m := by
      rcases hm.2.2 with e | ⟨a, b, hab, hb, e⟩
      · exact r_s (by omega)
      · have := dst_r h.1 (a := a) (b := b) (by omega) (by omega) hb
        exact r_s (by omega)
    have hm2 := eqw_max h.2.1.1 hm
    refine ok_q (y := 0) hR ?_
    unfold Aft
    rw [sp_X8_spread_e, mS_14 fr_14, mV_14 fr_14]
    exact ⟨by decide, cp_vok h, hx, fun a => absurd hr a, fun _ m' hm' => ans_e h hR (max_u hm' hm2)⟩
theorem trp_m {σ σ' : Sto} (h : TrP σ σ') : mS σ' = mS σ ∧ mV σ' = mV σ := by
  have g : ∀ k, σ' 12 3 k = σ 12 3 k := fun k => h.1 12 3 k (by omega) (by omega) (by omega) (by omega) (by omega) (by omega)
  exact ⟨by funext k; exact g _, by funext w k; exact g _⟩
theorem pt_placedOn {σ : Sto} {x y kp : Int} (h : Cp σ) (hx : inR x) (hy : inR y) (hk : bitOK kp) : PairT sp_L_placedOn sp_X8_placedOn [vr 7 0, vi x, vi y, vi kp, vr 14 0] [vr 8 0, vi x, vi y, vi kp] σ := by
  unfold PairT
  rw [sp_L_placedOn_e, sp_X7_placedOn_e]
  refine ⟨by decide, h.1, hx, hy, hk, fun hr => kx_1 rfl ?_, fun hr σ' z hz ht => ?_⟩
  · unfold Aft
    rw [sp_X8_placedOn_e]
    exact ⟨by decide, cp_vok h, hx, hy, hk, fun _ => thr_e h (by decide), fun a => absurd a hr⟩
  · have n24 := cp_n24 h
    have c := ct_r (P := fun w => 0 < z w 2) (cn_ σ 0)
    have hR : inR (ct (fun w => 0 < z w 2) (cn_ σ 0)) := r_s (by rw [cpn2 h] at c ⊢; omega)
    have h' := cp_u h (tru_p ht)
    have hE : EqW (fun k => if k = 0 then x else if k = 1 then y else mS σ k) (mV σ) (fun k => if k = 0 then x else if k = 1 then y else vS σ 0 k) (vV σ 0) := by
      refine ⟨fun k hk => ?_, ?_⟩
      · show (if k = 0 then x else if k = 1 then y else vS σ 0 k) = if k = 0 then x else if k = 1 then y else mS σ k
        rw [h.2.1.1.1 k hk]
      · exact h.2.1.1.2
    have hz2 := (eqw_out hE).mp hz
    refine ok_q (y := 0) hR ?_
    unfold Aft
    rw [sp_X8_placedOn_e, mS_14 fr_14, mV_14 fr_14, (trp_m ht).1, (trp_m ht).2]
    refine ⟨by decide, cp_vok h, hx, hy, hk, fun a => absurd hr a, fun _ ρ z' hz' hq => ?_⟩
    rw [OutZ_u hz' hz2]
    exact qu_e h' hR (by rw [cpn2 h]) hq
theorem pt_movedBy {σ : Sto} {w x : Int} (h : Cp σ) (hw : inR w) (hx : inR x) : PairT sp_L_movedBy sp_X8_movedBy [vr 7 0, vi w, vi x, vr 14 0] [vr 8 0, vi w, vi x] σ := by
  have cn := cpn h
  unfold PairT
  rw [sp_L_movedBy_e, sp_X7_movedBy_e]
  refine ⟨by decide, h.1, hw, hx, fun hr => kx_2a rfl ?_, fun hr hl => kx_2b (by decide) rfl ?_, fun hr hl σ' z hz ht => ?_⟩
  · unfold Aft
    rw [sp_X8_movedBy_e]
    exact ⟨by decide, cp_vok h, hw, hx, fun _ => thr_e h (by decide), fun a => absurd a (by omega), fun a => absurd a (by omega)⟩
  · unfold Aft
    rw [sp_X8_movedBy_e]
    exact ⟨by decide, cp_vok h, hw, hx, fun a => absurd a (by omega), fun _ _ => thr_e h (by decide), fun _ a => absurd a hl⟩
  · have n24 := cp_n24 h
    have c := ct_r (P := MovZ (vV σ 0) z) (cn_ σ 0)
    have hR : inR (ct (MovZ (vV σ 0) z) (cn_ σ 0)) := r_s (by rw [cpn2 h] at c ⊢; omega)
    have h' := cp_u h (tru_p ht)
    have hz2 := (eqw_out (eqw_mb h.2.1.1)).mp hz
    have e := eqw_mov (z := z) h.2.1.1
    have m8 : σ' 12 3 5 = σ 12 3 5 := ht.1 12 3 5 (by omega) (by omega) (by omega) (by omega) (by omega) (by omega)
    refine ok_q (y := 0) hR ?_
    unfold Aft
    rw [sp_X8_movedBy_e, mS_14 fr_14, mV_14 fr_14, (trp_m ht).1, (trp_m ht).2, up_nc (by decide), m8]
    refine ⟨by decide, cp_vok h, hw, hx, fun a => absurd a (by omega), fun _ a => absurd hl a, fun _ _ ρ z' hz' hq => ?_⟩
    rw [OutZ_u hz' hz2]
    exact qu_e h' hR e.symm hq
