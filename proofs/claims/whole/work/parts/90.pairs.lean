/-- one step of the law: the class answers within, then the model, and both agree -/
def Aft (sp8 : Spec) (a8 : List AV) (cd : Int) (τ : Sto) : Prop := sp8 a8 τ (fun r ρ => ∃ v, r = some (vi v) ∧ inR v ∧ Cp ρ ∧ ρ 8 0 4 = cd ∧ (cd = 0 → ρ 14 0 0 = v)) (fun _ _ => False)
def PairT (spL sp8 : Spec) (aL a8 : List AV) (σ : Sto) : Prop := spL aL σ (fun r τ => ∃ cd, r = some (vi cd) ∧ inR cd ∧ Aft sp8 a8 cd τ) (fun _ _ => False)
theorem cpn {σ : Sto} (h : Cp σ) : σ 1 0 1 = σ 12 3 5 := h.2.1.1.1 5 (by omega)
theorem cpn2 {σ : Sto} (h : Cp σ) : cn_ σ 0 = nS (mS σ) := by
  show (σ 1 0 1).toNat = (σ 12 3 5).toNat
  rw [cpn h]
theorem kx_1 {σ : Sto} {n t : Nat} {sp8 : Spec} {a8 : List AV} (ht : ckx n = t) (h : Aft sp8 a8 1 σ) : ckx n = t ∧ ∃ cd, (some (vi 1) : Option AV) = some (vi cd) ∧ inR cd ∧ Aft sp8 a8 cd σ := ⟨ht, 1, rfl, ⟨by omega, by omega⟩, h⟩
theorem kx_2a {σ : Sto} {n t t2 : Nat} {sp8 : Spec} {a8 : List AV} (ht : ckx n = t) (h : Aft sp8 a8 1 σ) : (ckx n = t → ∃ cd, (some (vi 1) : Option AV) = some (vi cd) ∧ inR cd ∧ Aft sp8 a8 cd σ) ∧ (¬ ckx n = t → ckx n = t2 ∧ ∃ cd, (some (vi 2) : Option AV) = some (vi cd) ∧ inR cd ∧ Aft sp8 a8 cd σ) := ⟨fun _ => ⟨1, rfl, ⟨by omega, by omega⟩, h⟩, fun e => absurd ht e⟩
theorem kx_2b {σ : Sto} {n t t2 : Nat} {sp8 : Spec} {a8 : List AV} (hn : ckx n ≠ t) (ht : ckx n = t2) (h : Aft sp8 a8 2 σ) : (ckx n = t → ∃ cd, (some (vi 1) : Option AV) = some (vi cd) ∧ inR cd ∧ Aft sp8 a8 cd σ) ∧ (¬ ckx n = t → ckx n = t2 ∧ ∃ cd, (some (vi 2) : Option AV) = some (vi cd) ∧ inR cd ∧ Aft sp8 a8 cd σ) := ⟨fun e => absurd e hn, fun _ => ⟨ht, 2, rfl, ⟨by omega, by omega⟩, h⟩⟩
/-- the model's answer where it throws -/
theorem thr_e {σ : Sto} {cd : Int} (h : Cp σ) (hc : cd ≠ 0) : ∃ v, (some (vi 0) : Option AV) = some (vi v) ∧ inR v ∧ Cp (up3 σ 8 0 4 cd) ∧ (up3 σ 8 0 4 cd) 8 0 4 = cd ∧ (cd = 0 → (up3 σ 8 0 4 cd) 14 0 0 = v) := ⟨0, rfl, ⟨by omega, by omega⟩, cp_8 h, up_e, fun e => absurd e hc⟩
/-- the model's answer where it only looks -/
theorem ans_e {σ : Sto} {x y : Int} (h : Cp σ) (hx : inR x) (e : y = x) : ∃ v, (some (vi y) : Option AV) = some (vi v) ∧ inR v ∧ Cp (up3 (up3 σ 14 0 0 x) 8 0 4 0) ∧ (up3 (up3 σ 14 0 0 x) 8 0 4 0) 8 0 4 = 0 ∧ ((0 : Int) = 0 → (up3 (up3 σ 14 0 0 x) 8 0 4 0) 14 0 0 = v) := by
  subst e
  exact ⟨y, rfl, hx, cp_8 (cp_14 h), up_e, fun _ => by rw [up_nc (by decide), up_e]⟩
theorem r0_ : inR 0 := ⟨by omega, by omega⟩
/-- the class's answer where it only looks, then the model -/
theorem ok_q {σ : Sto} {x y : Int} {sp8 : Spec} {a8 : List AV} (hR : inR x) (h : Aft sp8 a8 0 (up3 σ 14 0 0 x)) : ∃ v, (some (vi x) : Option AV) = some (vi v) ∧ inR v ∧ ∃ cd, (some (vi 0) : Option AV) = some (vi cd) ∧ inR cd ∧ Aft sp8 a8 cd (up3 σ 14 0 0 v) := ⟨x, rfl, hR, 0, rfl, r0_, h⟩
theorem pt_value {σ : Sto} {x : Int} (h : Cp σ) (hx : inR x) : PairT sp_L_value sp_X8_value [vr 7 0, vi x, vr 14 0] [vr 8 0, vi x] σ := by
  unfold PairT
  rw [sp_L_value_e, sp_X7_value_e]
  refine ⟨by decide, h.1, hx, fun hr => ?_, fun hr => kx_1 rfl ?_⟩
  · have e := eqw_val h.2.1.1 hr
    have hR : inR (valV (vS σ 0) (vV σ 0) x) := by
      unfold valV plcN
      have c := ct_r (P := fun w => 0 < vV σ 0 w 16) (nS (vS σ 0))
      have n := h.1.2.2.1.1
      have s := h.1.2.2.2.1
      have m : nS (vS σ 0) ≤ 24 := by show (σ 1 0 1).toNat ≤ 24; omega
      unfold SetOK at s
      split
      · exact ⟨by omega, by omega⟩
      · split
        · show inR (σ 1 0 7); exact ⟨by omega, by omega⟩
        · rename_i a b
          rcases (show x = 0 ∨ x = 1 ∨ x = 2 ∨ x = 3 ∨ x = 4 ∨ x = 5 by omega) with q | q | q | q | q | q <;> subst q
          · show inR (σ 1 0 2); exact ⟨by omega, by omega⟩
          · show inR (σ 1 0 3); exact ⟨by omega, by omega⟩
          · show inR (σ 1 0 4); exact ⟨by omega, by omega⟩
          · show inR (σ 1 0 5); exact ⟨by omega, by omega⟩
          · show inR (σ 1 0 6); exact ⟨by omega, by omega⟩
          · show inR (σ 1 0 1); exact ⟨by omega, by omega⟩
    refine ⟨_, rfl, hR, 0, rfl, r0_, ?_⟩
    unfold Aft
    rw [sp_X8_value_e, mS_14 fr_14, mV_14 fr_14]
    exact ⟨by decide, cp_vok h, hx, fun hn => absurd hr hn, fun _ => ans_e h hR e.symm⟩
  · unfold Aft
    rw [sp_X8_value_e]
    exact ⟨by decide, cp_vok h, hx, fun _ => thr_e h (by decide), fun hn => absurd hn hr⟩
theorem pt_append {σ : Sto} {x : Int} (h : Cp σ) (hx : inR x) : PairT sp_L_append sp_X8_append [vr 7 0, vi x, vr 14 0] [vr 8 0, vi x] σ := by
  have t := h.2.2.2.1
  have t1 := h.1.2.2.2.2.2.2.1.1
  unfold PairT
  rw [sp_L_append_e, sp_X7_append_e]
  refine ⟨by decide, h.1, hx, fun hr => kx_2a rfl ?_, fun hr hl => kx_2b (by decide) rfl ?_, fun hr hl => ?_⟩
  · unfold Aft
    rw [sp_X8_append_e]
    exact ⟨by decide, by omega, hx, fun _ => thr_e h (by decide), fun a => absurd a hr, fun a => absurd a hr⟩
  · unfold Aft
    rw [sp_X8_append_e]
    exact ⟨by decide, by omega, hx, fun a => absurd hr a, fun _ _ => thr_e h (by decide), fun _ a => absurd a (by omega)⟩
  · refine ⟨_, rfl, ⟨by omega, by omega⟩, 0, rfl, r0_, ?_⟩
    unfold Aft
    rw [sp_X8_append_e]
    have k : ∀ v, (up3 (up3 (up3 σ 12 2 (σ 6 0 1).toNat x) 6 0 1 (σ 6 0 1 + 1)) 14 0 0 v) 8 0 12 = σ 8 0 12 := fun v => by rw [up_nc (by decide), up_nc (by decide), up_nc (by decide)]
    rw [k]
    refine ⟨by decide, by omega, hx, fun a => absurd hr a, fun _ a => absurd hl (by omega), fun _ _ => ⟨_, rfl, ⟨by omega, by omega⟩, ?_, ?_, fun _ => ?_⟩⟩
    · rw [up_c14 (by decide), up_c14 (by decide)]
      have := cp_append (cp_14 (v := σ 6 0 1 + 1) h) hr (by rw [up_nc (by decide)]; exact hl)
      rw [up_nc (by decide), up_nc (by decide)] at this
      exact this
    · rw [up_nj (by decide), up_nc (by decide), up_e]
    · rw [up_nc (by decide), up_nc (by decide), up_nc (by decide), up_e]; omega
theorem word_r {σ : Sto} (h : Cp σ) {w : Nat} (hw : w < nS (mS σ)) : ((1 ≤ mV σ w 0 ∧ mV σ w 0 ≤ 10) ∧ (∀ k : Nat, (k : Int) < mV σ w 0 → 0 ≤ mV σ w (1 + k) ∧ mV σ w (1 + k) ≤ 25)) ∧ (1 ≤ mV σ w 11 ∧ mV σ w 11 ≤ 1000) ∧ (0 ≤ mV σ w 12 ∧ mV σ w 12 ≤ 2) ∧ (0 ≤ mV σ w 13 ∧ mV σ w 13 ≤ 3) ∧ (0 ≤ mV σ w 14 ∧ mV σ w 14 ≤ 80) ∧ (0 ≤ mV σ w 15 ∧ mV σ w 15 ≤ 50) ∧ (0 ≤ mV σ w 16 ∧ mV σ w 16 ≤ 80) ∧ (0 ≤ mV σ w 17 ∧ mV σ w 17 ≤ 50) ∧ bitOK (mV σ w 18) := by
  have a := (cp_vok h).2 w hw
  have b := h_pok (cp_vok h) w hw
  exact ⟨⟨a.1, a.2.1⟩, a.2.2.1, a.2.2.2.1, a.2.2.2.2.1, b⟩
theorem wlt {σ : Sto} (h : Cp σ) {w : Int} (hw : 0 ≤ w ∧ w < σ 1 0 1) : w.toNat < nS (mS σ) := by
  have := cpn h
  show w.toNat < (σ 12 3 5).toNat
  omega
theorem r_s {x : Int} (h : -100000 ≤ x ∧ x ≤ 100000) : inR x := ⟨by omega, by omega⟩
theorem pt_word {σ : Sto} {w x : Int} (h : Cp σ) (hw : inR w) (hx : inR x) : PairT sp_L_word sp_X8_word [vr 7 0, vi w, vi x, vr 14 0] [vr 8 0, vi w, vi x] σ := by
  have cn := cpn h
  unfold PairT
  rw [sp_L_word_e, sp_X7_word_e]
  refine ⟨by decide, h.1, hw, hx, fun hr => kx_2a rfl ?_, fun hr hl => kx_2b (by decide) rfl ?_, fun hr hl => ?_⟩
  · unfold Aft
    rw [sp_X8_word_e]
    exact ⟨by decide, cp_vok h, hw, hx, fun _ => thr_e h (by decide), fun a => absurd a (by omega), fun a => absurd a (by omega)⟩
  · unfold Aft
    rw [sp_X8_word_e]
    exact ⟨by decide, cp_vok h, hw, hx, fun a => absurd a (by omega), fun _ _ => thr_e h (by decide), fun _ a => absurd a hl⟩
  · have hn := wlt h hr
    have e := eqw_wd h.2.1.1 hn hl
    have b := word_r h hn
    have hR : inR (wdV (mS σ) (mV σ) w.toNat x) := by
      unfold wdV
      split
      · exact r_s (by omega)
      · split
        · have := ct_r (P := rkB (fun i => mV σ i 11) w.toNat) (nS (mS σ))
          have m := cp_n24 h
          show inR (ct (rkB (fun i => mV σ i 11) w.toNat) (nS (mS σ)))
          exact r_s (by omega)
        · split
          · have := szV_r (cp_vok h) hn
            exact r_s (by omega)
          · rcases (show x = 1 ∨ x = 2 ∨ x = 3 by omega) with q | q | q <;> subst q
            · exact r_s (show -100000 ≤ mV σ w.toNat 11 ∧ mV σ w.toNat 11 ≤ 100000 by omega)
            · exact r_s (show -100000 ≤ mV σ w.toNat 12 ∧ mV σ w.toNat 12 ≤ 100000 by omega)
            · exact r_s (show -100000 ≤ mV σ w.toNat 13 ∧ mV σ w.toNat 13 ≤ 100000 by omega)
    rw [← e] at hR
    refine ok_q (y := 0) hR ?_
    unfold Aft
    rw [sp_X8_word_e, mS_14 fr_14, mV_14 fr_14, up_nc (by decide)]
    exact ⟨by decide, cp_vok h, hw, hx, fun a => absurd a (by omega), fun _ a => absurd hl a, fun _ _ => ans_e h hR e.symm⟩
theorem pt_place {σ : Sto} {w x : Int} (h : Cp σ) (hw : inR w) (hx : inR x) : PairT sp_L_place sp_X8_place [vr 7 0, vi w, vi x, vr 14 0] [vr 8 0, vi w, vi x] σ := by
  have cn := cpn h
  unfold PairT
  rw [sp_L_place_e, sp_X7_place_e]
  refine ⟨by decide, h.1, hw, hx, fun hr => kx_2a rfl ?_, fun hr hl => kx_2b (by decide) rfl ?_, fun hr hl => ?_⟩
  · unfold Aft
    rw [sp_X8_place_e]
    exact ⟨by decide, cp_vok h, hw, hx, fun _ => thr_e h (by decide), fun a => absurd a (by omega), fun a => absurd a (by omega)⟩
  · unfold Aft
    rw [sp_X8_place_e]
    exact ⟨by decide, cp_vok h, hw, hx, fun a => absurd a (by omega), fun _ _ => thr_e h (by decide), fun _ a => absurd a hl⟩
  · have hn := wlt h hr
    have e := eqw_plc h.2.1.1 hn hl
    have b := word_r h hn
    have hR : inR (plcV (mV σ) w.toNat x) := by
      unfold plcV
      split
      · have b18 : 0 ≤ mV σ w.toNat 18 ∧ mV σ w.toNat 18 ≤ 1 := by
          have := b.2.2.2.2.2.2.2.2
          unfold bitOK at this
          omega
        rcases (show x = 0 ∨ x = 1 ∨ x = 2 ∨ x = 3 ∨ x = 4 by omega) with q | q | q | q | q <;> subst q
        · exact r_s (show -100000 ≤ mV σ w.toNat 14 ∧ mV σ w.toNat 14 ≤ 100000 by omega)
        · exact r_s (show -100000 ≤ mV σ w.toNat 15 ∧ mV σ w.toNat 15 ≤ 100000 by omega)
        · exact r_s (show -100000 ≤ mV σ w.toNat 16 ∧ mV σ w.toNat 16 ≤ 100000 by omega)
        · exact r_s (show -100000 ≤ mV σ w.toNat 17 ∧ mV σ w.toNat 17 ≤ 100000 by omega)
        · exact r_s (show -100000 ≤ mV σ w.toNat 18 ∧ mV σ w.toNat 18 ≤ 100000 by omega)
      · exact r_s (by omega)
    rw [← e] at hR
    refine ok_q (y := 0) hR ?_
    unfold Aft
    rw [sp_X8_place_e, mV_14 fr_14, mS_14 fr_14, up_nc (by decide)]
    exact ⟨by decide, cp_vok h, hw, hx, fun a => absurd a (by omega), fun _ a => absurd hl a, fun _ _ => ans_e h hR e.symm⟩
theorem pt_letter {σ : Sto} {w x : Int} (h : Cp σ) (hw : inR w) (hx : inR x) : PairT sp_L_letter sp_X8_letter [vr 7 0, vi w, vi x, vr 14 0] [vr 8 0, vi w, vi x] σ := by
  have cn := cpn h
  unfold PairT
  rw [sp_L_letter_e, sp_X7_letter_e]
  refine ⟨by decide, h.1, hw, hx, fun hr => kx_1 rfl ?_, fun hr hl => kx_1 rfl ?_, fun hr hl => ?_⟩
  · unfold Aft
    rw [sp_X8_letter_e]
    exact ⟨by decide, cp_vok h, hw, hx, fun _ => thr_e h (by decide), fun a => absurd a.1 (by omega)⟩
  · have e0 : vV σ 0 w.toNat 0 = mV σ w.toNat 0 := h.2.1.1.2 _ (wlt h hr) 0 (Or.inl rfl)
    unfold Aft
    rw [sp_X8_letter_e]
    exact ⟨by decide, cp_vok h, hw, hx, fun _ => thr_e h (by decide), fun a => absurd a.2 (by omega)⟩
  · have hn := wlt h hr
    have b := word_r h hn
    have e0 : vV σ 0 w.toNat 0 = mV σ w.toNat 0 := h.2.1.1.2 _ hn 0 (Or.inl rfl)
    have e := eqw_let h.2.1.1 hn (k := x.toNat) (by omega) (by omega)
    have b2 := b.1.2 x.toNat (by omega)
    have hR : inR (vV σ 0 w.toNat (1 + x.toNat)) := r_s (by omega)
    refine ok_q (y := 0) hR ?_
    unfold Aft
    rw [sp_X8_letter_e, mV_14 fr_14, mS_14 fr_14, up_nc (by decide)]
    exact ⟨by decide, cp_vok h, hw, hx, fun a => absurd ⟨by omega, by omega⟩ a, fun _ => ans_e h hR e.symm⟩
