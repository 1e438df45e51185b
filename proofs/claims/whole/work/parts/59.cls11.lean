theorem tr_pre {σ τ τ2 : Sto} (hC : CI σ) (hcp : CldCp σ τ 1 0) (u : ∀ c' i k : Nat, (c' ≠ 1 ∨ i ≠ 1) → (c' ≠ 2 ∨ i < 24 ∨ 48 ≤ i) → τ2 c' i k = τ c' i k) (h1 : τ2 1 1 1 = τ 1 1 1) : Phy τ2 ∧ BxG τ2 ∧ (0 ≤ τ2 4 0 5 ∧ τ2 4 0 5 ≤ 24) ∧ cn_ τ2 1 = cn_ σ 0 ∧ ∀ σ', LayB τ2 σ' 1 → TrP σ σ' := by
  have f := hcp.2.2.1
  refine ⟨phy_congr (fun c i k h => u c i k (by omega) (by omega)) (cldcp_phy hC.1 hcp), fun e he h0 => ?_, ?_, ?_, fun σ' hB => ⟨fun c' i k p1 p2 p3 p4 p5 p6 => ?_, hB.2.1, hB.2.2.2.2.2, hB.2.2.2.2.1⟩⟩
  · rw [u 0 e _ (by omega) (by omega)] at h0
    rw [u 0 e _ (by omega) (by omega), u 0 e _ (by omega) (by omega), u 0 e _ (by omega) (by omega), u 0 e _ (by omega) (by omega)]
    exact boxp_g hcp.2.2.2 hC.2.1 e he h0
  · rw [u 4 0 5 (by omega) (by omega), f 4 0 5 (by omega) (by omega)]; exact hC.2.2.2.2.2.2.2
  · unfold cn_; rw [h1]; exact (cldcp_cl hC.2.2.1 hcp).2.2
  · rw [hB.1 c' i k (by omega) p4 p5 p6 (by omega), u c' i k (by omega) (by omega), f c' i k (by omega) (by omega)]
def mbV (V : Nat → Nat → Int) (w : Nat) (x : Int) : Nat → Nat → Int := fun o k => if o = w ∧ k = 11 then x else V o k
def sp_X7_movedBy : Spec := fun a σ K KX => ∃ (q : Nat) (w : Int) (x : Int), a = [vr 7 q, vi w, vi x] ∧ (q < 1 ∧ CI σ ∧ inR w ∧ inR x ∧ (¬ (0 ≤ w ∧ w < σ 1 0 1) → KX 2 σ) ∧ ((0 ≤ w ∧ w < σ 1 0 1) → ¬ (1 ≤ x ∧ x ≤ 1000) → KX 0 σ) ∧ ((0 ≤ w ∧ w < σ 1 0 1) → (1 ≤ x ∧ x ≤ 1000) → ∀ σ' z, OutZ (vS σ 0) (mbV (vV σ 0) w.toNat x) 1 z → TrP σ σ' → K (some (vi (ct (MovZ (vV σ 0) z) (cn_ σ 0)))) σ'))
theorem sp_X7_movedBy_e {q : Nat} {w : Int} {x : Int} {σ : Sto} {K : Option AV → Sto → Prop} {KX : Nat → Sto → Prop} : sp_X7_movedBy [vr 7 q, vi w, vi x] σ K KX = (q < 1 ∧ CI σ ∧ inR w ∧ inR x ∧ (¬ (0 ≤ w ∧ w < σ 1 0 1) → KX 2 σ) ∧ ((0 ≤ w ∧ w < σ 1 0 1) → ¬ (1 ≤ x ∧ x ≤ 1000) → KX 0 σ) ∧ ((0 ≤ w ∧ w < σ 1 0 1) → (1 ≤ x ∧ x ≤ 1000) → ∀ σ' z, OutZ (vS σ 0) (mbV (vV σ 0) w.toNat x) 1 z → TrP σ σ' → K (some (vi (ct (MovZ (vV σ 0) z) (cn_ σ 0)))) σ')) := propext ⟨fun h => by obtain ⟨_, _, _, h, hb⟩ := h; cases h; exact hb, fun hb => ⟨_, _, _, rfl, hb⟩⟩
def pr_X7_movedBy : Par := (ftX7, [(88, (2, 1, 7 + 1, sp_X7_requireWord)), (44, (3, 1, 0, sp_X7_requireArgument)), (85, (2, 0, 1 + 1, sp_X1_copyFrom)), (144, (3, 0, 4 + 1, sp_X4_layAll))], [], [], 1, 2, none)
def rm_X7_movedBy : Room := { frames := 8, cells := 2, slots := 12, locals := 143 }
theorem ca_X7_movedBy_88 : List.lookup 88 pr_X7_movedBy.2.1 = some (2, 1, 7 + 1, sp_X7_requireWord) := rfl
theorem ca_X7_movedBy_44 : List.lookup 44 pr_X7_movedBy.2.1 = some (3, 1, 0, sp_X7_requireArgument) := rfl
theorem ca_X7_movedBy_85 : List.lookup 85 pr_X7_movedBy.2.1 = some (2, 0, 1 + 1, sp_X1_copyFrom) := rfl
theorem ca_X7_movedBy_144 : List.lookup 144 pr_X7_movedBy.2.1 = some (3, 0, 4 + 1, sp_X4_layAll) := rfl
set_option maxRecDepth 100000 in
set_option maxHeartbeats 4000000 in
theorem sem_X7_movedBy : Sem pr_X7_movedBy cX7_movedBy 3 sp_X7_movedBy := by
  rintro a σ K KX ⟨q, w, x, rfl, hq, hC, rw_, rx, h1, h2, h3⟩
  refine ⟨by simp [vr, vi, nj], Nat.le_of_ble_eq_true rfl, fun G hG => ?_⟩
  have hq0 : q = 0 := by omega
  subst hq0
  have mce : pr_X7_movedBy.2.2.2.2.2.1 = 2 := rfl
  have hP := hC.1
  have hCl := hC.2.2.1
  have n0 := hCl.1.1
  have n1 := hCl.1.2
  have rn : inR (σ 1 0 1) := by unfold inR; omega
  have z6 : (0 : Nat) < 6 := by omega
  have o6 : (1 : Nat) < 6 := by omega
  have o0 : ¬ ((1 : Nat) = 0) := by omega
  show G 0 [vr 7 0, vi w, vi x] [] σ 0
  have go : (0 ≤ w ∧ w < σ 1 0 1) → (1 ≤ x ∧ x ≤ 1000) → ∀ τ, CldCp σ τ 1 0 → G 24 [vr 7 0, vi w, vi x] [] τ 2 := by
    intro hw hx τ hcp
    have hw0 := hw.1
    have hw24 : w < 24 := by omega
    have hPτ := cldcp_phy hP hcp
    have hcl := cldcp_cl hCl hcp
    have hSτ := hcl.2.1 hC.2.2.2.1
    have vw := cld_view hcp
    have f := hcp.2.2.1
    have he := en_lt hPτ o6 (show w.toNat < 24 by omega)
    have he' : (τ 9 1 w.toNat).toNat < 144 := he.1
    obtain ⟨hP2, hB2, h45, ecn, hTr⟩ := tr_pre (τ2 := up3 τ 2 (τ 9 1 w.toNat).toNat 3 x) hC hcp (fun c' i k o1 o2 => up_k (by have := he.2; unfold en at this; omega)) (up_nc (by omega))
    have hwn : w.toNat < cn_ σ 0 := by unfold cn_; omega
    have hC2 : ClOK (up3 τ 2 (τ 9 1 w.toNat).toNat 3 x) 1 := by
      refine ⟨by rw [up_nc (by omega)]; exact hcl.1.1, fun o ho => ?_⟩
      rw [ecn] at ho
      have hE := hcl.1.2 o (by rw [hcl.2.2]; exact ho)
      have ee : en (up3 τ 2 (τ 9 1 w.toNat).toNat 3 x) 1 o = en τ 1 o := by unfold en; rw [up_nc (by omega)]
      rw [ee]
      unfold EntOK at hE ⊢
      have g2 : ∀ k, k ≠ 3 → up3 τ 2 (τ 9 1 w.toNat).toNat 3 x 2 (en τ 1 o) k = τ 2 (en τ 1 o) k := fun k hk => up_nj hk
      have g0 : ∀ k, up3 τ 2 (τ 9 1 w.toNat).toNat 3 x 0 (en τ 1 o) k = τ 0 (en τ 1 o) k := fun k => up_nc (by omega)
      have g10 : ∀ k, up3 τ 2 (τ 9 1 w.toNat).toNat 3 x 10 (en τ 1 o) k = τ 10 (en τ 1 o) k := fun k => up_nc (by omega)
      rw [g2 2 (by omega), g2 4 (by omega), g2 5 (by omega)]
      simp only [g0, g10]
      refine ⟨hE.1, hE.2.1, ?_, hE.2.2.2⟩
      by_cases q : en τ 1 o = (τ 9 1 w.toNat).toNat
      · rw [q, up_e]; exact hx
      · rw [up_ni q]; exact hE.2.2.1
    have hS2 : SetOK (up3 τ 2 (τ 9 1 w.toNat).toNat 3 x) 1 := by
      unfold SetOK
      simp only [up_nc (show (1 : Nat) ≠ 2 by omega)]
      exact hSτ
    have vS2 : ∀ k, vS (up3 τ 2 (τ 9 1 w.toNat).toNat 3 x) 1 k = vS σ 0 k := fun k => by rw [← vw.1 k]; rfl
    have vV2 : VEq (cn_ σ 0) 19 (mbV (vV σ 0) w.toNat x) (vV (up3 τ 2 (τ 9 1 w.toNat).toNat 3 x) 1) := by
      intro o ho k hk
      have ee : en (up3 τ 2 (τ 9 1 w.toNat).toNat 3 x) 1 o = en τ 1 o := by unfold en; rw [up_nc (by omega)]
      have hn24 : cn_ σ 0 ≤ 24 := by unfold cn_; omega
      have m0 : mbV (vV σ 0) w.toNat x o 0 = vV σ 0 o 0 := by unfold mbV; rw [if_neg (by omega)]
      rw [m0] at hk
      by_cases q : o = w.toNat ∧ k = 11
      · obtain ⟨q1, q2⟩ := q
        subst q2
        have e : mbV (vV σ 0) w.toNat x o 11 = x := by unfold mbV; rw [if_pos ⟨q1, rfl⟩]
        rw [e]
        show up3 τ 2 (τ 9 1 w.toNat).toNat 3 x 2 (en (up3 τ 2 (τ 9 1 w.toNat).toNat 3 x) 1 o) 3 = x
        rw [ee, q1]
        exact up_e
      · have e : mbV (vV σ 0) w.toNat x o k = vV σ 0 o k := by unfold mbV; rw [if_neg q]
        rw [e, ← vw.2 o ho k hk]
        unfold vV
        rw [ee]
        by_cases h0 : k = 0
        · subst h0; rw [if_pos rfl, if_pos rfl, up_nj (by omega)]
        · rw [if_neg h0, if_neg h0]
          by_cases h1 : k < 11
          · rw [if_pos h1, if_pos h1, up_nc (by omega)]
          · rw [if_neg h1, if_neg h1]
            by_cases h2 : k < 14
            · rw [if_pos h2, if_pos h2]
              by_cases h3 : k = 11
              · have hne : en τ 1 o ≠ (τ 9 1 w.toNat).toNat := fun z => q ⟨en_inj hPτ o6 (by omega) (by omega) z, h3⟩
                rw [up_ni hne]
              · rw [up_nj (by omega)]
            · rw [if_neg h2, if_neg h2, up_nc (by omega), up_nc (by omega), up_nc (by omega)]
    refine run hG [] 60 ?_
    simp only [wpn_s, wpn_0, br_T, br_F, st1, st2, true_and, and_true, ↓reduceIte, if_true, if_false, List.contains_nil, List.contains_cons, Bool.or_false, Bool.or_true, Bool.true_or, Bool.false_or, Bool.false_eq_true, bit_0, bit_1, bit_b, true_or, or_true, or_false, false_or, up_e, up_nc, up_nj, ne_eq, not_false_eq_true, not_true_eq_false, inR_n, inR_m1, bi_RT, br_bi, Nat.reduceAdd, Nat.reduceLT, Nat.reduceLeDiff, Nat.reduceEqDiff, Nat.reduceBEq, Nat.zero_le, Int.reduceAdd, Int.reduceNeg, Int.reduceLE, Int.reduceLT, Int.reduceToNat, Int.reduceNatCast, Int.reduceEq, Int.reduceSub, Int.reduceMul, rcv_e, take_c, take_z, drop_c, drop_z, rev_c, rev_n, app_c, app_n, tol_s, tol_n, len_c, len_n, Nat.le_refl, s1i_e, s2i_e, s1r_e, sir_e, siir_e, srir_e, c1_i, c1_r, s1v_e, s2v_e, ldv_0, ldv_s, ldx_0, ldx_s, ldi_0, ldi_s, ldr_0, ldr_s, fg_0_0, fg_0_1, fg_0_2, fg_0_3, fg_0_4, fg_0_5, fg_1_0, fg_1_1, fg_1_2, fg_1_3, fg_1_4, fg_1_5, fg_1_6, fg_1_7, fg_2_0, fg_2_1, fg_2_2, fg_2_3, fg_2_4, fg_2_5, fg_3_0, fg_3_1, fg_4_0, fg_4_1, fg_4_2, fg_4_3, fg_4_4, fg_4_5, fg_5_0, fg_5_1, fg_5_2, fg_5_3, fg_5_4, fg_5_5, fg_5_6, fg_6_0, fg_6_1, fg_6_2, fg_6_3, fg_7_0, fg_7_1, fg_7_2, fg_7_3, fg_7_4, fg_7_5, fg_8_0, fg_8_1, fg_8_2, fg_8_3, fg_8_4, fg_8_5, fg_8_6, fg_8_7, fg_8_8, fg_8_9, fg_8_10, fg_8_11, fg_8_12, fg_8_13, cnt_0, cnt_1, cnt_2, cnt_3, cnt_4, cnt_5, cnt_6, cnt_7, cnt_8, cnt_9, cnt_10, cnt_11, cnt_12, cnt_13, cnt_14, fk, rd, al_9, al_10, al_11, al_13, al_12_0, al_12_1, al_12_2, al_12_3, al_12_4, al_12_5, al_12_6, al_12_7, al_12_8, al_12_9, al_12_10, al_12_11, stepd_ok dX7_movedBy_0, sf_aload_n0, stepd_ok dX7_movedBy_1, sf_iload_n1, stepd_ok dX7_movedBy_2, sf_inv (P := pr_X7_movedBy) ca_X7_movedBy_88 rfl, stepd_ok dX7_movedBy_5, sf_iload_n2, stepd_ok dX7_movedBy_6, sf_iconst, stepd_ok dX7_movedBy_7, sf_sipush, stepd_ok dX7_movedBy_10, sf_ins (P := pr_X7_movedBy) ca_X7_movedBy_44 rfl, stepd_ok dX7_movedBy_13, stepd_ok dX7_movedBy_14, sf_getfield (P := pr_X7_movedBy) ftX7_23, stepd_ok dX7_movedBy_17, stepd_ok dX7_movedBy_18, sf_getfield (P := pr_X7_movedBy) ftX7_19, stepd_ok dX7_movedBy_21, sf_inv (P := pr_X7_movedBy) ca_X7_movedBy_85 rfl, stepd_ok dX7_movedBy_24, stepd_ok dX7_movedBy_25, stepd_ok dX7_movedBy_28, sf_getfield (P := pr_X7_movedBy) ftX7_74, stepd_ok dX7_movedBy_31, stepd_ok dX7_movedBy_32, sf_aaload, stepd_ok dX7_movedBy_33, stepd_ok dX7_movedBy_34, sf_putfield (P := pr_X7_movedBy) ftX7_91, stepd_ok dX7_movedBy_37, stepd_ok dX7_movedBy_38, sf_getfield (P := pr_X7_movedBy) ftX7_36, stepd_ok dX7_movedBy_41, stepd_ok dX7_movedBy_42, stepd_ok dX7_movedBy_45, stepd_ok dX7_movedBy_46, sf_inv (P := pr_X7_movedBy) ca_X7_movedBy_144 rfl, stepd_ok dX7_movedBy_49, sf_pop, stepd_ok dX7_movedBy_50, stepd_ok dX7_movedBy_51, stepd_ok dX7_movedBy_54, sf_getfield (P := pr_X7_movedBy) ftX7_141, stepd_ok dX7_movedBy_57, sf_iret1 (P := pr_X7_movedBy) rfl rfl, sp_X7_requireWord_e, sp_X7_requireArgument_e, sp_X1_copyFrom_e, sp_X4_layAll_e, Nat.zero_lt_one, mce, z6, o6, hw0, hw24, he', hP2, hC2, hS2, hB2]
    refine ⟨by rw [up_nc (by omega)] at h45; exact h45, fun σ' z hz hA => ?_⟩
    have hz' := (out_iff (S := vS σ 0) (V := mbV (vV σ 0) w.toNat x) (m := 19) (fun k hk => vS2 k) vV2 (by omega) (fun _ => by omega)).mp hz
    have k := h3 hw hx σ' z hz' (hTr σ' hA.1)
    have e7 := hA.2.2
    rw [ecn, ct_congr (Q := MovZ (vV σ 0) z) (cn_ σ 0) (fun o ho => by
      have g : ∀ k, 14 ≤ k → k < 18 → vV (up3 τ 2 (τ 9 1 w.toNat).toNat 3 x) 1 o k = vV σ 0 o k := fun k h1 h2 => by
        rw [VEq_k vV2 ho (by omega) (by omega)]
        unfold mbV; rw [if_neg (by omega)]
      unfold MovZ
      rw [g 14 (by omega) (by omega), g 15 (by omega) (by omega), g 16 (by omega) (by omega), g 17 (by omega) (by omega)])] at e7
    rw [e7]
    exact k
  refine run hG [24] 60 ?_
  simp only [wpn_s, wpn_0, br_T, br_F, st1, st2, true_and, and_true, ↓reduceIte, if_true, if_false, List.contains_nil, List.contains_cons, Bool.or_false, Bool.or_true, Bool.true_or, Bool.false_or, Bool.false_eq_true, bit_0, bit_1, bit_b, true_or, or_true, or_false, false_or, up_e, up_nc, up_nj, ne_eq, not_false_eq_true, not_true_eq_false, inR_n, inR_m1, bi_RT, br_bi, Nat.reduceAdd, Nat.reduceLT, Nat.reduceLeDiff, Nat.reduceEqDiff, Nat.reduceBEq, Nat.zero_le, Int.reduceAdd, Int.reduceNeg, Int.reduceLE, Int.reduceLT, Int.reduceToNat, Int.reduceNatCast, Int.reduceEq, Int.reduceSub, Int.reduceMul, rcv_e, take_c, take_z, drop_c, drop_z, rev_c, rev_n, app_c, app_n, tol_s, tol_n, len_c, len_n, Nat.le_refl, s1i_e, s2i_e, s1r_e, sir_e, siir_e, srir_e, c1_i, c1_r, s1v_e, s2v_e, ldv_0, ldv_s, ldx_0, ldx_s, ldi_0, ldi_s, ldr_0, ldr_s, fg_0_0, fg_0_1, fg_0_2, fg_0_3, fg_0_4, fg_0_5, fg_1_0, fg_1_1, fg_1_2, fg_1_3, fg_1_4, fg_1_5, fg_1_6, fg_1_7, fg_2_0, fg_2_1, fg_2_2, fg_2_3, fg_2_4, fg_2_5, fg_3_0, fg_3_1, fg_4_0, fg_4_1, fg_4_2, fg_4_3, fg_4_4, fg_4_5, fg_5_0, fg_5_1, fg_5_2, fg_5_3, fg_5_4, fg_5_5, fg_5_6, fg_6_0, fg_6_1, fg_6_2, fg_6_3, fg_7_0, fg_7_1, fg_7_2, fg_7_3, fg_7_4, fg_7_5, fg_8_0, fg_8_1, fg_8_2, fg_8_3, fg_8_4, fg_8_5, fg_8_6, fg_8_7, fg_8_8, fg_8_9, fg_8_10, fg_8_11, fg_8_12, fg_8_13, cnt_0, cnt_1, cnt_2, cnt_3, cnt_4, cnt_5, cnt_6, cnt_7, cnt_8, cnt_9, cnt_10, cnt_11, cnt_12, cnt_13, cnt_14, fk, rd, al_9, al_10, al_11, al_13, al_12_0, al_12_1, al_12_2, al_12_3, al_12_4, al_12_5, al_12_6, al_12_7, al_12_8, al_12_9, al_12_10, al_12_11, stepd_ok dX7_movedBy_0, sf_aload_n0, stepd_ok dX7_movedBy_1, sf_iload_n1, stepd_ok dX7_movedBy_2, sf_inv (P := pr_X7_movedBy) ca_X7_movedBy_88 rfl, stepd_ok dX7_movedBy_5, sf_iload_n2, stepd_ok dX7_movedBy_6, sf_iconst, stepd_ok dX7_movedBy_7, sf_sipush, stepd_ok dX7_movedBy_10, sf_ins (P := pr_X7_movedBy) ca_X7_movedBy_44 rfl, stepd_ok dX7_movedBy_13, stepd_ok dX7_movedBy_14, sf_getfield (P := pr_X7_movedBy) ftX7_23, stepd_ok dX7_movedBy_17, stepd_ok dX7_movedBy_18, sf_getfield (P := pr_X7_movedBy) ftX7_19, stepd_ok dX7_movedBy_21, sf_inv (P := pr_X7_movedBy) ca_X7_movedBy_85 rfl, stepd_ok dX7_movedBy_24, stepd_ok dX7_movedBy_25, stepd_ok dX7_movedBy_28, sf_getfield (P := pr_X7_movedBy) ftX7_74, stepd_ok dX7_movedBy_31, stepd_ok dX7_movedBy_32, sf_aaload, stepd_ok dX7_movedBy_33, stepd_ok dX7_movedBy_34, sf_putfield (P := pr_X7_movedBy) ftX7_91, stepd_ok dX7_movedBy_37, stepd_ok dX7_movedBy_38, sf_getfield (P := pr_X7_movedBy) ftX7_36, stepd_ok dX7_movedBy_41, stepd_ok dX7_movedBy_42, stepd_ok dX7_movedBy_45, stepd_ok dX7_movedBy_46, sf_inv (P := pr_X7_movedBy) ca_X7_movedBy_144 rfl, stepd_ok dX7_movedBy_49, sf_pop, stepd_ok dX7_movedBy_50, stepd_ok dX7_movedBy_51, stepd_ok dX7_movedBy_54, sf_getfield (P := pr_X7_movedBy) ftX7_141, stepd_ok dX7_movedBy_57, sf_iret1 (P := pr_X7_movedBy) rfl rfl, sp_X7_requireWord_e, sp_X7_requireArgument_e, sp_X1_copyFrom_e, sp_X4_layAll_e, Nat.zero_lt_one, rw_, rx, rn, mce, Nat.zero_add, hP, hCl, z6, o6, o0]
  exact ⟨fun hw => ⟨fun hx τ hcp => go hw hx τ hcp, fun hx => h2 hw hx⟩, h1⟩
theorem cn_X7_movedBy (l : Launch) (hfl : l.stackTraces = false) (Γ : Ga) : Cn l Γ yX7_movedBy (wsy yX7_movedBy cX7_movedBy 3 (some .int)) rm_X7_movedBy 2 sp_X7_movedBy := Cn_of (P := pr_X7_movedBy) (own := RX7) (by decide) rfl rfl (by decide) rfl ⟨rfl, rfl⟩ ftX7_ok (List.forall_mem_cons.mpr ⟨callV_of (rc := 7) (cn_X7_requireWord l hfl Γ) rfl rfl (List.forall_mem_cons.mpr ⟨wl_X7_88, fun _ h => wm_X7_requireWord h⟩) ⟨rfl, by decide, by decide, by decide +kernel⟩ ⟨by decide, by decide⟩, List.forall_mem_cons.mpr ⟨callS_of (cn_X7_requireArgument l hfl Γ) rfl rfl (List.forall_mem_cons.mpr ⟨wl_X7_44, fun _ h => wm_X7_requireArgument h⟩) ⟨by decide, by decide, by decide +kernel⟩ ⟨by decide, by decide⟩, List.forall_mem_cons.mpr ⟨callV_of (rc := 1) (cn_X1_copyFrom l Γ) rfl rfl (List.forall_mem_cons.mpr ⟨wl_X7_85, fun _ h => wm_X1_copyFrom h⟩) ⟨rfl, by decide, by decide, by decide +kernel⟩ ⟨by decide, by decide⟩, List.forall_mem_cons.mpr ⟨callV_of (rc := 4) (cn_X4_layAll l Γ) rfl rfl (List.forall_mem_cons.mpr ⟨wl_X7_144, fun _ h => wm_X4_layAll h⟩) ⟨rfl, by decide, by decide, by decide +kernel⟩ ⟨by decide, by decide⟩, fun _ h => (List.not_mem_nil h).elim⟩⟩⟩⟩) (fun _ h => (List.not_mem_nil h).elim) (fun _ _ _ _ _ _ _ _ _ _ q hq => (List.not_mem_nil hq).elim) sem_X7_movedBy
