/-- a step that cannot throw: both answer x -/
def PairN (sp7 sp8 : Spec) (a7 a8 : List AV) (σ : Sto) : Prop := sp7 a7 σ (fun r τ => ∃ x, r = some (vi x) ∧ inR x ∧ sp8 a8 τ (fun r2 ρ => r2 = some (vi x) ∧ Cp ρ) (fun _ _ => False)) (fun _ _ => False)
def PairL (sp7 sp8 : Spec) (a7 a8 : List AV) (σ : Sto) : Prop := sp7 a7 σ (fun r τ => ∃ x, r = some (vl x) ∧ sp8 a8 τ (fun r2 ρ => r2 = some (vl x) ∧ Cp ρ) (fun _ _ => False)) (fun _ _ => False)
def PairD (sp7 sp8 : Spec) (a7 a8 : List AV) (σ : Sto) : Prop := sp7 a7 σ (fun r τ => ∃ x, r = some (vd x) ∧ sp8 a8 τ (fun r2 ρ => r2 = some (vd x) ∧ Cp ρ) (fun _ _ => False)) (fun _ _ => False)
theorem pn_clearText {σ : Sto} (h : Cp σ) : PairN sp_X7_clearText sp_X8_clearText [vr 7 0] [vr 8 0] σ := by
  have t := h.2.2.2.1
  have t1 := h.1.2.2.2.2.2.2.1.1
  unfold PairN
  rw [sp_X7_clearText_e]
  refine ⟨by decide, _, rfl, r_s (by omega), ?_⟩
  rw [sp_X8_clearText_e]
  refine ⟨by decide, ?_, cp_clear h⟩
  rw [up_nc (by decide), t]
theorem pn_meetings {σ : Sto} (h : Cp σ) : PairN sp_X7_meetings sp_X8_meetings [vr 7 0] [vr 8 0] σ := by
  have n24 := cp_n24 h
  have e := eqw_prs h.2.1.1
  have c := prs_r (P := mtV (mV σ)) (n := nS (mS σ)) (nS (mS σ))
  have c2 : nS (mS σ) * nS (mS σ) ≤ 24 * 24 := Nat.mul_le_mul n24 n24
  have c3 : prs (mtV (mV σ)) (nS (mS σ)) (nS (mS σ)) ≤ 576 := Int.le_trans c.2 (by rw [← Int.natCast_mul]; exact Int.ofNat_le.mpr c2)
  have c4 := c.1
  unfold PairN
  rw [sp_X7_meetings_e]
  refine ⟨by decide, h.1, _, rfl, ?_, ?_⟩
  · show inR (prs (mtV (vV σ 0)) (nS (vS σ 0)) (nS (vS σ 0)))
    rw [e]
    exact ⟨by omega, by omega⟩
  · rw [sp_X8_meetings_e]
    exact ⟨by decide, cp_vok h, by rw [← e]; rfl, cp_8 h⟩
theorem pn_narrowest {σ : Sto} (h : Cp σ) : PairN sp_X7_narrowest sp_X8_narrowest [vr 7 0] [vr 8 0] σ := by
  unfold PairN
  rw [sp_X7_narrowest_e]
  refine ⟨by decide, h.1, fun r σ' hr ht => ⟨r, rfl, ?_, ?_⟩⟩
  · obtain ⟨i, hf, e⟩ := hr
    rcases hf with ⟨q, -⟩ | ⟨j, hj, q, -⟩
    · rw [if_pos q] at e; exact r_s (by omega)
    · rw [if_neg (by omega)] at e; exact r_s (by omega)
  · have h' := cp_u h (tru_p ht)
    rw [sp_X8_narrowest_e]
    refine ⟨by decide, cp_vok h', fun r' ρ hr' hq => ⟨?_, cp_qu h' hq⟩⟩
    rw [(trp_m ht).1, (trp_m ht).2] at hr'
    rw [nar_u hr' (eqw_nar h.2.1.1 hr)]
theorem pn_bestStride {σ : Sto} (h : Cp σ) : PairN sp_X7_bestStride sp_X8_bestStride [vr 7 0] [vr 8 0] σ := by
  unfold PairN
  rw [sp_X7_bestStride_e]
  refine ⟨by decide, h.1, fun r σ' hr ht => ⟨r, rfl, ?_, ?_⟩⟩
  · obtain ⟨f, a, e, a1, a5, -⟩ := hr
    exact r_s (by omega)
  · have h' := cp_u h (tru_p ht)
    rw [sp_X8_bestStride_e]
    refine ⟨by decide, cp_vok h', fun r' ρ hr' hq => ⟨?_, cp_qu h' hq⟩⟩
    rw [(trp_m ht).1, (trp_m ht).2] at hr'
    rw [bst_u hr' (eqw_bst h.2.1.1 hr)]
theorem pn_lay {σ : Sto} {kp : Int} (h : Cp σ) (hk : bitOK kp) : PairN sp_X7_lay sp_X8_lay [vr 7 0, vi kp] [vr 8 0, vi kp] σ := by
  have n24 := cp_n24 h
  unfold PairN
  rw [sp_X7_lay_e]
  refine ⟨by decide, h.1, hk, fun τ σ1 z hs hz hL => ⟨_, rfl, ?_, ?_⟩⟩
  · have c := ct_r (P := fun w => 0 < z w 2) (cn_ τ 0)
    have a := (savp_ci h.1 hs).2.2.1.1
    have b : cn_ τ 0 ≤ 24 := by show (τ 1 0 1).toNat ≤ 24; omega
    exact r_s (by omega)
  · have g : ∀ c i k : Nat, c = 8 ∨ (c = 12 ∧ 2 ≤ i) → σ1 c i k = σ c i k := fun c i k hc => by rw [hL.1.1 c i k (by omega) (by omega) (by omega) (by omega) (by omega), savp_m hs c i k (by omega)]
    have gm := mSV_of (σ := σ) (τ := σ1) (fun k => g 12 3 k (by omega))
    rw [sp_X8_lay_e]
    refine ⟨by decide, by rw [gm.1, gm.2]; exact cp_vok h, by rw [g 8 0 3 (by omega)]; exact n8 h, hk, fun ρ σ' z' hm hz' hM => ?_⟩
    have c := cp_lay h hs hz hL hm hz' hM
    exact ⟨by rw [c.2], c.1⟩
theorem pl_digest {σ : Sto} (h : Cp σ) : PairL sp_X7_digest sp_X8_digest [vr 7 0] [vr 8 0] σ := by
  have t := h.2.2.2.1
  have t1 := h.1.2.2.2.2.2.2.1.1
  have s := h.2.2.1.1
  have n := n8 h
  unfold PairL
  rw [sp_X7_digest_e]
  refine ⟨by decide, h.1, fun σ' hf => ⟨_, rfl, ?_⟩⟩
  have h' := cp_13 h hf
  have m1 : mS σ' = mS σ := by funext k; exact hf 12 3 _ (by decide)
  have m2 : mV σ' = mV σ := by funext w k; exact hf 12 3 _ (by decide)
  rw [sp_X8_digest_e]
  refine ⟨by decide, cp_vok h', r_s (by rw [hf 8 0 12 (by decide)]; omega), r_s (by rw [hf 8 0 3 (by decide)]; omega), ?_, cp_8 h'⟩
  rw [m1, m2, hf 8 0 12 (by decide), hf 8 0 3 (by decide), ← t, ← s, eqw_dg h.2.1.1 (fun w hw => (word_r h hw).1.1.2)]
theorem pd_covered {σ : Sto} (h : Cp σ) : PairD sp_X7_covered sp_X8_covered [vr 7 0] [vr 8 0] σ := by
  unfold PairD
  rw [sp_X7_covered_e]
  refine ⟨by decide, h.1, fun σ' hf => ⟨_, rfl, ?_⟩⟩
  have h' := cp_13 h hf
  have m1 : mS σ' = mS σ := by funext k; exact hf 12 3 _ (by decide)
  have m2 : mV σ' = mV σ := by funext w k; exact hf 12 3 _ (by decide)
  rw [sp_X8_covered_e]
  refine ⟨by decide, cp_vok h', ?_, cp_8 h'⟩
  rw [m1, m2, eqw_ext h.2.1.1, h.2.1.1.1 0 (by omega), h.2.1.1.1 1 (by omega)]
theorem pn_parse {σ : Sto} (h : Cp σ) : PairN sp_X7_parse sp_X8_parse [vr 7 0] [vr 8 0] σ := by
  have t := h.2.2.2.1
  have t1 := h.1.2.2.2.2.2.2.1.1
  have tx := cp_tx h
  have n := n8 h
  unfold PairN
  rw [sp_X7_parse_e]
  refine ⟨by decide, h.1, fun r τ hr ht => ⟨_, rfl, ?_, ?_⟩, fun k τ τ' σ1 hA hs hc => ⟨_, rfl, ?_, ?_⟩⟩
  · obtain ⟨m, m1, m2, m3, m4, m5⟩ := hr
    have a := ps_le m2 t1.2 m1
    have b := ps_r (h := hrc σ) m
    have c := itm_r (h := hrc σ) (full := 24 ≤ m) (kn := knw (hrc σ) m) b
    have m5 : r = itm (hrc σ) (24 ≤ m) (knw (hrc σ) m) (ps (hrc σ) m) := m5
    exact r_s (by omega)
  · have h' := cp_u h ht
    have f := ht.1
    have tx' := cp_tx h'
    have e0 : hrm τ = hrm σ := by
      funext p
      unfold hrm
      rw [f 8 0 12 (by omega) (by omega) (by omega) (by omega) (by omega) (by omega) (by omega), f 12 11 _ (by omega) (by omega) (by omega) (by omega) (by omega) (by omega) (by omega)]
    have e1 : hrm τ = hrc σ := by rw [e0, tx.2]
    have e2 : τ 8 0 12 = σ 6 0 1 := by rw [f 8 0 12 (by omega) (by omega) (by omega) (by omega) (by omega) (by omega) (by omega)]; omega
    rw [sp_X8_parse_e]
    refine ⟨by decide, cp_vok h', tx'.1, n8 h', fun r' ρ hr' hq => ⟨?_, cp_fa h' hq⟩, fun k ρ hM => ?_⟩
    · rw [e1, e2] at hr'
      rw [txtF_u hr' hr]
    · have hN := hM.1
      rw [e1, e2] at hN
      exact (txtNF hN hr).elim
  · have := hA.2.2.2.2.2.1.1
    exact r_s (by omega)
  · have f := hA.1.1
    have g : ∀ c i k : Nat, c = 8 ∨ (c = 12 ∧ 2 ≤ i) → σ1 c i k = σ c i k := fun c i k hc2 => by rw [hc.2.2.1 c i k (by omega) (by omega), savp_m hs c i k (by omega), f c i k (by omega) (by omega) (by omega) (by omega) (by omega) (by omega) (by omega)]
    have gm := mSV_of (σ := σ) (τ := σ1) (fun k => g 12 3 k (by omega))
    have e0 : hrm σ1 = hrm σ := by
      funext p
      unfold hrm
      rw [g 8 0 12 (by omega), g 12 11 _ (by omega)]
    have e1 : hrm σ1 = hrc σ := by rw [e0, tx.2]
    have e2 : σ1 8 0 12 = σ 6 0 1 := by rw [g 8 0 12 (by omega)]; omega
    have tm : TxM σ1 := by
      unfold TxM
      rw [g 8 0 12 (by omega)]
      exact ⟨tx.1.1, fun k hk => by rw [g 12 11 k (by omega)]; exact tx.1.2 k hk⟩
    rw [sp_X8_parse_e]
    refine ⟨by decide, by rw [gm.1, gm.2]; exact cp_vok h, tm, by rw [g 8 0 3 (by omega)]; exact n8 h, fun r' ρ hr' hq => ?_, fun k' ρ hM => ?_⟩
    · rw [e1, e2] at hr'
      exact (txtNF hA.2.2.2.2.2.1 hr').elim
    · have c := cp_parse h hA hs hc hM
      exact ⟨by rw [c.2], c.1⟩
