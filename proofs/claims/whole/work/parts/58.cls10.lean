/-- what a question asked of the trial may change -/
def FrT (σ σ' : Sto) : Prop := ∀ c' i k : Nat, (c' ≠ 0 ∨ (i ≠ 144 ∧ (i < 24 ∨ 48 ≤ i))) → ((c' ≠ 2 ∧ c' ≠ 10) ∨ i < 24 ∨ 48 ≤ i) → (c' ≠ 1 ∨ i ≠ 1) → (c' ≠ 4 ∨ i ≠ 0 ∨ (k ≠ 4 ∧ k ≠ 5)) → (c' ≠ 5 ∨ i ≠ 0) → (c' ≠ 12 ∨ (i ≠ 0 ∧ i ≠ 1)) → σ' c' i k = σ c' i k
def TrP (σ σ' : Sto) : Prop := FrT σ σ' ∧ Phy σ' ∧ BxG σ' ∧ (0 ≤ σ' 4 0 5 ∧ σ' 4 0 5 ≤ 24)
theorem ci_t {σ σ' : Sto} (h : CI σ) (ht : TrP σ σ') : CI σ' := by
  obtain ⟨hP, hG, hC, hS, hn, hsv, hT, hm⟩ := h
  obtain ⟨f, hP', hG', hm'⟩ := ht
  have far : ∀ d, d < 6 → d ≠ 1 → (ClOK σ d → ClOK σ' d) ∧ (SetOK σ d → SetOK σ' d) := fun d hd hne => fr_cl hP hd (fun k => f 1 d k (by omega) (by omega) (by omega) (by omega) (by omega) (by omega)) (fun k => f 9 d k (by omega) (by omega) (by omega) (by omega) (by omega) (by omega)) (fun i h1 h2 c' k hc => f c' i k (by omega) (by omega) (by omega) (by omega) (by omega) (by omega))
  have e3 : σ' 3 0 1 = σ 3 0 1 := f 3 0 1 (by omega) (by omega) (by omega) (by omega) (by omega) (by omega)
  have e11 : ∀ j, σ' 11 0 j = σ 11 0 j := fun j => f 11 0 j (by omega) (by omega) (by omega) (by omega) (by omega) (by omega)
  refine ⟨hP', hG', (far 0 (by omega) (by omega)).1 hC, (far 0 (by omega) (by omega)).2 hS, by rw [e3]; exact hn, fun j hj => ?_, ?_, hm'⟩
  · rw [e3] at hj
    rw [e11]
    have a := hP.2.2.2.1 j (by omega)
    have b := hsv j hj
    have g := far (σ 11 0 j).toNat (by omega) (by omega)
    exact ⟨g.1 b.1, g.2 b.2⟩
  · unfold TxOK at hT ⊢
    have e1 := f 6 0 1 (by omega) (by omega) (by omega) (by omega) (by omega) (by omega)
    have e2 : ∀ k, σ' 12 2 k = σ 12 2 k := fun k => f 12 2 k (by omega) (by omega) (by omega) (by omega) (by omega) (by omega)
    rw [e1]
    simp only [e2]
    exact hT
theorem vV_up1 {σ : Sto} {i k : Nat} {x : Int} {c : Nat} : vV (up3 σ 1 i k x) c = vV σ c := by
  funext w k'
  unfold vV en
  rw [up_nc (by omega), up_nc (by omega), up_nc (by omega), up_nc (by omega), up_nc (by omega), up_nc (by omega), up_nc (by omega)]
theorem cld_view {σ τ : Sto} {c d : Nat} (h : CldCp σ τ c d) : (∀ k, vS τ c k = vS σ d k) ∧ VEq (cn_ σ d) 19 (vV σ d) (vV τ c) := by
  obtain ⟨a, b, f, -⟩ := h
  refine ⟨fun k => ?_, fun w hw k hk => ?_⟩
  · unfold vS
    rw [a 1 (by omega) (by omega), a 2 (by omega) (by omega), a 3 (by omega) (by omega), a 4 (by omega) (by omega), a 5 (by omega) (by omega), a 6 (by omega) (by omega), a 7 (by omega) (by omega)]
  · have e : en τ c w = en σ c w := by unfold en; rw [f 9 c w (by omega) (by omega)]
    obtain ⟨p, q, r⟩ := b w hw
    have e0 : vV σ d w 0 = σ 2 (en σ d w) 2 := rfl
    unfold vV
    rw [e]
    by_cases h0 : k = 0
    · subst h0; rw [if_pos rfl, if_pos rfl]; exact p 2 (by omega) (by omega)
    · rw [if_neg h0, if_neg h0]
      by_cases h1 : k < 11
      · rw [if_pos h1, if_pos h1]
        exact q (k - 1) (by omega)
      · rw [if_neg h1, if_neg h1]
        by_cases h2 : k < 14
        · rw [if_pos h2, if_pos h2]; exact p (k - 8) (by omega) (by omega)
        · rw [if_neg h2, if_neg h2, r 0 (by omega), r 1 (by omega)]
          by_cases h3 : k = 18
          · rw [if_pos h3, if_pos h3]
          · rw [if_neg h3, if_neg h3, r (k - 12) (by omega)]
def sp_X7_placedOn : Spec := fun a σ K KX => ∃ (q : Nat) (x : Int) (y : Int) (kp : Int), a = [vr 7 q, vi x, vi y, vi kp] ∧ (q < 1 ∧ CI σ ∧ inR x ∧ inR y ∧ bitOK kp ∧ (¬ ((10 ≤ x ∧ x ≤ 80) ∧ 10 ≤ y ∧ y ≤ 50) → KX 0 σ) ∧ (((10 ≤ x ∧ x ≤ 80) ∧ 10 ≤ y ∧ y ≤ 50) → ∀ σ' z, OutZ (fun k => if k = 0 then x else if k = 1 then y else vS σ 0 k) (vV σ 0) kp z → TrP σ σ' → K (some (vi (ct (fun w => 0 < z w 2) (cn_ σ 0)))) σ'))
theorem sp_X7_placedOn_e {q : Nat} {x : Int} {y : Int} {kp : Int} {σ : Sto} {K : Option AV → Sto → Prop} {KX : Nat → Sto → Prop} : sp_X7_placedOn [vr 7 q, vi x, vi y, vi kp] σ K KX = (q < 1 ∧ CI σ ∧ inR x ∧ inR y ∧ bitOK kp ∧ (¬ ((10 ≤ x ∧ x ≤ 80) ∧ 10 ≤ y ∧ y ≤ 50) → KX 0 σ) ∧ (((10 ≤ x ∧ x ≤ 80) ∧ 10 ≤ y ∧ y ≤ 50) → ∀ σ' z, OutZ (fun k => if k = 0 then x else if k = 1 then y else vS σ 0 k) (vV σ 0) kp z → TrP σ σ' → K (some (vi (ct (fun w => 0 < z w 2) (cn_ σ 0)))) σ')) := propext ⟨fun h => by obtain ⟨_, _, _, _, h, hb⟩ := h; cases h; exact hb, fun hb => ⟨_, _, _, _, rfl, hb⟩⟩
def pr_X7_placedOn : Par := (ftX7, [(44, (3, 1, 0, sp_X7_requireArgument)), (85, (2, 0, 1 + 1, sp_X1_copyFrom)), (144, (3, 0, 4 + 1, sp_X4_layAll))], [], [], 1, 2, none)
def rm_X7_placedOn : Room := { frames := 7, cells := 2, slots := 12, locals := 143 }
theorem ca_X7_placedOn_44 : List.lookup 44 pr_X7_placedOn.2.1 = some (3, 1, 0, sp_X7_requireArgument) := rfl
theorem ca_X7_placedOn_85 : List.lookup 85 pr_X7_placedOn.2.1 = some (2, 0, 1 + 1, sp_X1_copyFrom) := rfl
theorem ca_X7_placedOn_144 : List.lookup 144 pr_X7_placedOn.2.1 = some (3, 0, 4 + 1, sp_X4_layAll) := rfl
set_option maxRecDepth 100000 in
set_option maxHeartbeats 4000000 in
theorem sem_X7_placedOn : Sem pr_X7_placedOn cX7_placedOn 4 sp_X7_placedOn := by
  rintro a σ K KX ⟨q, x, y, kp, rfl, hq, hC, rx, ry, hkp, h1, h3⟩
  refine ⟨by simp [vr, vi, nj], Nat.le_of_ble_eq_true rfl, fun G hG => ?_⟩
  have hq0 : q = 0 := by omega
  subst hq0
  have mce : pr_X7_placedOn.2.2.2.2.2.1 = 2 := rfl
  have hP := hC.1
  have hCl := hC.2.2.1
  have z6 : (0 : Nat) < 6 := by omega
  have o6 : (1 : Nat) < 6 := by omega
  have o0 : ¬ ((1 : Nat) = 0) := by omega
  show G 0 [vr 7 0, vi x, vi y, vi kp] [] σ 0
  have go : ((10 ≤ x ∧ x ≤ 80) ∧ 10 ≤ y ∧ y ≤ 50) → ∀ τ, CldCp σ τ 1 0 → G 27 [vr 7 0, vi x, vi y, vi kp] [] τ 2 := by
    intro hx τ hcp
    have hPτ := cldcp_phy hP hcp
    have hcl := cldcp_cl hCl hcp
    have hSτ := hcl.2.1 hC.2.2.2.1
    have vw := cld_view hcp
    have fcp := hcp.2.2.1
    refine run hG [] 60 ?_
    simp only [wpn_s, wpn_0, br_T, br_F, st1, st2, true_and, and_true, ↓reduceIte, if_true, if_false, List.contains_nil, List.contains_cons, Bool.or_false, Bool.or_true, Bool.true_or, Bool.false_or, Bool.false_eq_true, bit_0, bit_1, bit_b, true_or, or_true, or_false, false_or, up_e, up_nc, up_nj, ne_eq, not_false_eq_true, not_true_eq_false, inR_n, inR_m1, bi_RT, br_bi, Nat.reduceAdd, Nat.reduceLT, Nat.reduceLeDiff, Nat.reduceEqDiff, Nat.reduceBEq, Nat.zero_le, Int.reduceAdd, Int.reduceNeg, Int.reduceLE, Int.reduceLT, Int.reduceToNat, Int.reduceNatCast, Int.reduceEq, Int.reduceSub, Int.reduceMul, rcv_e, take_c, take_z, drop_c, drop_z, rev_c, rev_n, app_c, app_n, tol_s, tol_n, len_c, len_n, Nat.le_refl, s1i_e, s2i_e, s1r_e, sir_e, siir_e, srir_e, c1_i, c1_r, s1v_e, s2v_e, ldv_0, ldv_s, ldx_0, ldx_s, ldi_0, ldi_s, ldr_0, ldr_s, fg_0_0, fg_0_1, fg_0_2, fg_0_3, fg_0_4, fg_0_5, fg_1_0, fg_1_1, fg_1_2, fg_1_3, fg_1_4, fg_1_5, fg_1_6, fg_1_7, fg_2_0, fg_2_1, fg_2_2, fg_2_3, fg_2_4, fg_2_5, fg_3_0, fg_3_1, fg_4_0, fg_4_1, fg_4_2, fg_4_3, fg_4_4, fg_4_5, fg_5_0, fg_5_1, fg_5_2, fg_5_3, fg_5_4, fg_5_5, fg_5_6, fg_6_0, fg_6_1, fg_6_2, fg_6_3, fg_7_0, fg_7_1, fg_7_2, fg_7_3, fg_7_4, fg_7_5, fg_8_0, fg_8_1, fg_8_2, fg_8_3, fg_8_4, fg_8_5, fg_8_6, fg_8_7, fg_8_8, fg_8_9, fg_8_10, fg_8_11, fg_8_12, fg_8_13, cnt_0, cnt_1, cnt_2, cnt_3, cnt_4, cnt_5, cnt_6, cnt_7, cnt_8, cnt_9, cnt_10, cnt_11, cnt_12, cnt_13, cnt_14, fk, stepd_ok dX7_placedOn_0, sf_iload_n1, stepd_ok dX7_placedOn_1, sf_bipush, stepd_ok dX7_placedOn_3, stepd_ok dX7_placedOn_5, sf_ins (P := pr_X7_placedOn) ca_X7_placedOn_44 rfl, stepd_ok dX7_placedOn_8, sf_iload_n2, stepd_ok dX7_placedOn_9, stepd_ok dX7_placedOn_11, stepd_ok dX7_placedOn_13, stepd_ok dX7_placedOn_16, sf_aload_n0, stepd_ok dX7_placedOn_17, sf_getfield (P := pr_X7_placedOn) ftX7_23, stepd_ok dX7_placedOn_20, stepd_ok dX7_placedOn_21, sf_getfield (P := pr_X7_placedOn) ftX7_19, stepd_ok dX7_placedOn_24, sf_inv (P := pr_X7_placedOn) ca_X7_placedOn_85 rfl, stepd_ok dX7_placedOn_27, stepd_ok dX7_placedOn_28, stepd_ok dX7_placedOn_31, stepd_ok dX7_placedOn_32, sf_putfield (P := pr_X7_placedOn) ftX7_105, stepd_ok dX7_placedOn_35, stepd_ok dX7_placedOn_36, stepd_ok dX7_placedOn_39, stepd_ok dX7_placedOn_40, sf_putfield (P := pr_X7_placedOn) ftX7_108, stepd_ok dX7_placedOn_43, stepd_ok dX7_placedOn_44, sf_getfield (P := pr_X7_placedOn) ftX7_36, stepd_ok dX7_placedOn_47, stepd_ok dX7_placedOn_48, stepd_ok dX7_placedOn_51, sf_iload_n3, stepd_ok dX7_placedOn_52, sf_inv (P := pr_X7_placedOn) ca_X7_placedOn_144 rfl, stepd_ok dX7_placedOn_55, sf_iret1 (P := pr_X7_placedOn) rfl rfl, sp_X7_requireArgument_e, sp_X1_copyFrom_e, sp_X4_layAll_e, Nat.zero_lt_one, mce, z6, o6, hkp]
    have u : ∀ c' i k : Nat, (c' ≠ 1 ∨ i ≠ 1) → up3 (up3 τ 1 1 2 x) 1 1 3 y c' i k = τ c' i k := fun c' i k h => by rw [up_k (by omega), up_k (by omega)]
    have hP2 : Phy (up3 (up3 τ 1 1 2 x) 1 1 3 y) := phy_congr (fun c i k h => u c i k (by omega)) hPτ
    have hB2 : BxG (up3 (up3 τ 1 1 2 x) 1 1 3 y) := by
      intro e he h0
      rw [u 0 e _ (by omega)] at h0
      rw [u 0 e _ (by omega), u 0 e _ (by omega), u 0 e _ (by omega), u 0 e _ (by omega)]
      exact boxp_g hcp.2.2.2 hC.2.1 e he h0
    have hC2 : ClOK (up3 (up3 τ 1 1 2 x) 1 1 3 y) 1 := cl_congr (by simp [up3]) (fun k => u 9 1 k (by omega)) (fun i hi c' k h => u c' _ k (by omega)) hcl.1
    have hS2 : SetOK (up3 (up3 τ 1 1 2 x) 1 1 3 y) 1 := by
      obtain ⟨s1, s2, s3, s4, s5, s6⟩ := hSτ
      unfold SetOK
      simp [up3]
      exact ⟨hx.1, hx.2, s3, s4, s5, s6⟩
    have h45 : τ 4 0 5 = σ 4 0 5 := fcp 4 0 5 (by omega) (by omega)
    refine ⟨hP2, hC2, hS2, by rw [h45]; exact hC.2.2.2.2.2.2.2, hB2, fun σ' z hz hA => ?_⟩
    have ecn : cn_ (up3 (up3 τ 1 1 2 x) 1 1 3 y) 1 = cn_ σ 0 := by
      have : (up3 (up3 τ 1 1 2 x) 1 1 3 y) 1 1 1 = τ 1 1 1 := by simp [up3]
      unfold cn_; rw [this]; exact hcl.2.2
    rw [ecn]
    refine h3 hx σ' z ?_ ⟨fun c' i k p1 p2 p3 p4 p5 p6 => ?_, hA.1.2.1, hA.1.2.2.2.2.2, hA.1.2.2.2.2.1⟩
    · rw [vV_up1, vV_up1] at hz
      refine (out_iff (S := fun k => if k = 0 then x else if k = 1 then y else vS σ 0 k) (V := vV σ 0) (m := 19) (fun k hk => ?_) vw.2 (by omega) (fun _ => by omega)).mp hz
      have v0 := vw.1 k
      rcases (show k = 0 ∨ k = 1 ∨ k = 2 ∨ k = 3 ∨ k = 4 ∨ k = 5 by omega) with e | e | e | e | e | e <;> subst e <;> simp [vS, up3] at v0 ⊢ <;> exact v0
    · rw [hA.1.1 c' i k (by omega) p4 p5 p6 (by omega), u c' i k (by omega), fcp c' i k (by omega) (by omega)]
  refine run hG [27] 60 ?_
  simp only [wpn_s, wpn_0, br_T, br_F, st1, st2, true_and, and_true, ↓reduceIte, if_true, if_false, List.contains_nil, List.contains_cons, Bool.or_false, Bool.or_true, Bool.true_or, Bool.false_or, Bool.false_eq_true, bit_0, bit_1, bit_b, true_or, or_true, or_false, false_or, up_e, up_nc, up_nj, ne_eq, not_false_eq_true, not_true_eq_false, inR_n, inR_m1, bi_RT, br_bi, Nat.reduceAdd, Nat.reduceLT, Nat.reduceLeDiff, Nat.reduceEqDiff, Nat.reduceBEq, Nat.zero_le, Int.reduceAdd, Int.reduceNeg, Int.reduceLE, Int.reduceLT, Int.reduceToNat, Int.reduceNatCast, Int.reduceEq, Int.reduceSub, Int.reduceMul, rcv_e, take_c, take_z, drop_c, drop_z, rev_c, rev_n, app_c, app_n, tol_s, tol_n, len_c, len_n, Nat.le_refl, s1i_e, s2i_e, s1r_e, sir_e, siir_e, srir_e, c1_i, c1_r, s1v_e, s2v_e, ldv_0, ldv_s, ldx_0, ldx_s, ldi_0, ldi_s, ldr_0, ldr_s, fg_0_0, fg_0_1, fg_0_2, fg_0_3, fg_0_4, fg_0_5, fg_1_0, fg_1_1, fg_1_2, fg_1_3, fg_1_4, fg_1_5, fg_1_6, fg_1_7, fg_2_0, fg_2_1, fg_2_2, fg_2_3, fg_2_4, fg_2_5, fg_3_0, fg_3_1, fg_4_0, fg_4_1, fg_4_2, fg_4_3, fg_4_4, fg_4_5, fg_5_0, fg_5_1, fg_5_2, fg_5_3, fg_5_4, fg_5_5, fg_5_6, fg_6_0, fg_6_1, fg_6_2, fg_6_3, fg_7_0, fg_7_1, fg_7_2, fg_7_3, fg_7_4, fg_7_5, fg_8_0, fg_8_1, fg_8_2, fg_8_3, fg_8_4, fg_8_5, fg_8_6, fg_8_7, fg_8_8, fg_8_9, fg_8_10, fg_8_11, fg_8_12, fg_8_13, cnt_0, cnt_1, cnt_2, cnt_3, cnt_4, cnt_5, cnt_6, cnt_7, cnt_8, cnt_9, cnt_10, cnt_11, cnt_12, cnt_13, cnt_14, fk, stepd_ok dX7_placedOn_0, sf_iload_n1, stepd_ok dX7_placedOn_1, sf_bipush, stepd_ok dX7_placedOn_3, stepd_ok dX7_placedOn_5, sf_ins (P := pr_X7_placedOn) ca_X7_placedOn_44 rfl, stepd_ok dX7_placedOn_8, sf_iload_n2, stepd_ok dX7_placedOn_9, stepd_ok dX7_placedOn_11, stepd_ok dX7_placedOn_13, stepd_ok dX7_placedOn_16, sf_aload_n0, stepd_ok dX7_placedOn_17, sf_getfield (P := pr_X7_placedOn) ftX7_23, stepd_ok dX7_placedOn_20, stepd_ok dX7_placedOn_21, sf_getfield (P := pr_X7_placedOn) ftX7_19, stepd_ok dX7_placedOn_24, sf_inv (P := pr_X7_placedOn) ca_X7_placedOn_85 rfl, stepd_ok dX7_placedOn_27, stepd_ok dX7_placedOn_28, stepd_ok dX7_placedOn_31, stepd_ok dX7_placedOn_32, sf_putfield (P := pr_X7_placedOn) ftX7_105, stepd_ok dX7_placedOn_35, stepd_ok dX7_placedOn_36, stepd_ok dX7_placedOn_39, stepd_ok dX7_placedOn_40, sf_putfield (P := pr_X7_placedOn) ftX7_108, stepd_ok dX7_placedOn_43, stepd_ok dX7_placedOn_44, sf_getfield (P := pr_X7_placedOn) ftX7_36, stepd_ok dX7_placedOn_47, stepd_ok dX7_placedOn_48, stepd_ok dX7_placedOn_51, sf_iload_n3, stepd_ok dX7_placedOn_52, sf_inv (P := pr_X7_placedOn) ca_X7_placedOn_144 rfl, stepd_ok dX7_placedOn_55, sf_iret1 (P := pr_X7_placedOn) rfl rfl, sp_X7_requireArgument_e, sp_X1_copyFrom_e, sp_X4_layAll_e, Nat.zero_lt_one, rx, ry, mce, Nat.zero_add, hP, hCl, z6, o6, o0]
  exact ⟨fun hx => ⟨fun hy τ hcp => go ⟨hx, hy⟩ τ hcp, fun hy => h1 (fun z => hy z.2)⟩, fun hx => h1 (fun z => hx z.1)⟩
theorem cn_X7_placedOn (l : Launch) (hfl : l.stackTraces = false) (Γ : Ga) : Cn l Γ yX7_placedOn (wsy yX7_placedOn cX7_placedOn 4 (some .int)) rm_X7_placedOn 2 sp_X7_placedOn := Cn_of (P := pr_X7_placedOn) (own := RX7) (by decide) rfl rfl (by decide) rfl ⟨rfl, rfl⟩ ftX7_ok (List.forall_mem_cons.mpr ⟨callS_of (cn_X7_requireArgument l hfl Γ) rfl rfl (List.forall_mem_cons.mpr ⟨wl_X7_44, fun _ h => wm_X7_requireArgument h⟩) ⟨by decide, by decide, by decide +kernel⟩ ⟨by decide, by decide⟩, List.forall_mem_cons.mpr ⟨callV_of (rc := 1) (cn_X1_copyFrom l Γ) rfl rfl (List.forall_mem_cons.mpr ⟨wl_X7_85, fun _ h => wm_X1_copyFrom h⟩) ⟨rfl, by decide, by decide, by decide +kernel⟩ ⟨by decide, by decide⟩, List.forall_mem_cons.mpr ⟨callV_of (rc := 4) (cn_X4_layAll l Γ) rfl rfl (List.forall_mem_cons.mpr ⟨wl_X7_144, fun _ h => wm_X4_layAll h⟩) ⟨rfl, by decide, by decide, by decide +kernel⟩ ⟨by decide, by decide⟩, fun _ h => (List.not_mem_nil h).elim⟩⟩⟩) (fun _ h => (List.not_mem_nil h).elim) (fun _ _ _ _ _ _ _ _ _ _ q hq => (List.not_mem_nil hq).elim) sem_X7_placedOn
