theorem boxp_cp {σ : Sto} {e o : Nat} (he : e < 144) (ho : o < 144) : BoxP σ (cpBox σ e o) := by
  intro i hi
  by_cases q : i = e
  · subst q
    refine ⟨o, by omega, fun _ => ho, fun k hk => ?_⟩
    rcases (show k = 0 ∨ k = 1 ∨ k = 2 ∨ k = 3 ∨ k = 4 ∨ k = 5 by omega) with h | h | h | h | h | h <;> subst h <;> simp [cpBox, up3]
  · refine ⟨i, hi, fun h => h, fun k hk => ?_⟩
    unfold cpBox
    rw [up_ni q, up_ni q, up_ni q, up_ni q, up_ni q, up_ni q]
theorem cpb_k {σ : Sto} {e o k : Nat} (hk : k < 6) : cpBox σ e o 0 e k = σ 0 o k := by
  rcases (show k = 0 ∨ k = 1 ∨ k = 2 ∨ k = 3 ∨ k = 4 ∨ k = 5 by omega) with h | h | h | h | h | h <;> subst h <;> simp [cpBox, up3]
theorem cpb_o {σ : Sto} {e o c i k : Nat} (h : c ≠ 0 ∨ i ≠ e) : cpBox σ e o c i k = σ c i k := by
  unfold cpBox
  rw [up_k (by omega), up_k (by omega), up_k (by omega), up_k (by omega), up_k (by omega), up_k (by omega)]
def sp_X7_giveFormerPlace : Spec := fun a σ K KX => ∃ (q : Nat) (e : Nat), a = [vr 7 q, vr 2 e] ∧ (q < 1 ∧ e < 144 ∧ Phy σ ∧ ClOK σ 0 ∧ inR (σ 2 e 2) ∧ (∀ k : Nat, (k : Int) < σ 2 e 2 → inR (σ 10 e k)) ∧ ∀ r, FF (fun i => SameL σ (en σ 0 i) e) (cn_ σ 0) r → (r = -1 → K none (up3 σ 0 e 0 0)) ∧ (∀ o : Nat, r = o → K none (cpBox σ e (en σ 0 o))))
theorem sp_X7_giveFormerPlace_e {q : Nat} {e : Nat} {σ : Sto} {K : Option AV → Sto → Prop} {KX : Nat → Sto → Prop} : sp_X7_giveFormerPlace [vr 7 q, vr 2 e] σ K KX = (q < 1 ∧ e < 144 ∧ Phy σ ∧ ClOK σ 0 ∧ inR (σ 2 e 2) ∧ (∀ k : Nat, (k : Int) < σ 2 e 2 → inR (σ 10 e k)) ∧ ∀ r, FF (fun i => SameL σ (en σ 0 i) e) (cn_ σ 0) r → (r = -1 → K none (up3 σ 0 e 0 0)) ∧ (∀ o : Nat, r = o → K none (cpBox σ e (en σ 0 o)))) := propext ⟨fun h => by obtain ⟨_, _, h, hb⟩ := h; cases h; exact hb, fun hb => ⟨_, _, rfl, hb⟩⟩
def pr_X7_giveFormerPlace : Par := (ftX7, [(246, (2, 0, 1 + 1, sp_X1_numberOf)), (249, (2, 0, 0 + 1, sp_X0_copyFrom))], [], [], 0, 0, none)
def rm_X7_giveFormerPlace : Room := { frames := 2, cells := 0, slots := 0, locals := 44 }
theorem ca_X7_giveFormerPlace_246 : List.lookup 246 pr_X7_giveFormerPlace.2.1 = some (2, 0, 1 + 1, sp_X1_numberOf) := rfl
theorem ca_X7_giveFormerPlace_249 : List.lookup 249 pr_X7_giveFormerPlace.2.1 = some (2, 0, 0 + 1, sp_X0_copyFrom) := rfl
set_option maxRecDepth 100000 in
set_option maxHeartbeats 4000000 in
theorem sem_X7_giveFormerPlace : Sem pr_X7_giveFormerPlace cX7_giveFormerPlace 3 sp_X7_giveFormerPlace := by
  rintro a σ K KX ⟨q, e, rfl, hq, he, hP, hCl, hl, hle, hK⟩
  refine ⟨by simp [vr, vi, nj], Nat.le_of_ble_eq_true rfl, fun G hG => ?_⟩
  have hq0 : q = 0 := by omega
  subst hq0
  have z6 : (0 : Nat) < 6 := by omega
  have n0 := hCl.1.1
  have n1 := hCl.1.2
  have e145 : e < 145 := by omega
  show G 0 [vr 7 0, vr 2 e, vj] [] σ 0
  have fin : ∀ r, FF (fun i => SameL σ (en σ 0 i) e) (cn_ σ 0) r → G 8 [vr 7 0, vr 2 e, vj] [vi r] σ 0 := by
    intro r hf
    have k := hK r hf
    rcases hf with ⟨hr, -⟩ | ⟨o, ho, hr, -, -⟩
    · subst hr
      have kk := k.1 rfl
      refine run hG [] 60 ?_
      simp only [wpn_s, wpn_0, br_T, br_F, st1, st2, true_and, and_true, ↓reduceIte, if_true, if_false, List.contains_nil, List.contains_cons, Bool.or_false, Bool.or_true, Bool.true_or, Bool.false_or, Bool.false_eq_true, bit_0, bit_1, bit_b, true_or, or_true, or_false, false_or, up_e, up_nc, up_nj, ne_eq, not_false_eq_true, not_true_eq_false, inR_n, inR_m1, bi_RT, br_bi, Nat.reduceAdd, Nat.reduceLT, Nat.reduceLeDiff, Nat.reduceEqDiff, Nat.reduceBEq, Nat.zero_le, Int.reduceAdd, Int.reduceNeg, Int.reduceLE, Int.reduceLT, Int.reduceToNat, Int.reduceNatCast, Int.reduceEq, Int.reduceSub, Int.reduceMul, set_0, set_s, len_c, len_n, nc2_0, nc2_1i, nc2_1r, nc2_1j, nc2_s, rcv_e, take_c, take_z, drop_c, drop_z, rev_c, rev_n, app_c, app_n, tol_s, tol_n, Nat.le_refl, s1i_e, s2i_e, s1r_e, sir_e, siir_e, srir_e, c1_i, c1_r, s1v_e, s2v_e, ldv_0, ldv_s, ldx_0, ldx_s, ldi_0, ldi_s, ldr_0, ldr_s, fg_0_0, fg_0_1, fg_0_2, fg_0_3, fg_0_4, fg_0_5, fg_1_0, fg_1_1, fg_1_2, fg_1_3, fg_1_4, fg_1_5, fg_1_6, fg_1_7, fg_2_0, fg_2_1, fg_2_2, fg_2_3, fg_2_4, fg_2_5, fg_3_0, fg_3_1, fg_4_0, fg_4_1, fg_4_2, fg_4_3, fg_4_4, fg_4_5, fg_5_0, fg_5_1, fg_5_2, fg_5_3, fg_5_4, fg_5_5, fg_5_6, fg_6_0, fg_6_1, fg_6_2, fg_6_3, fg_7_0, fg_7_1, fg_7_2, fg_7_3, fg_7_4, fg_7_5, fg_8_0, fg_8_1, fg_8_2, fg_8_3, fg_8_4, fg_8_5, fg_8_6, fg_8_7, fg_8_8, fg_8_9, fg_8_10, fg_8_11, fg_8_12, fg_8_13, cnt_0, cnt_1, cnt_2, cnt_3, cnt_4, cnt_5, cnt_6, cnt_7, cnt_8, cnt_9, cnt_10, cnt_11, cnt_12, cnt_13, cnt_14, fk, rd, al_9, al_10, al_11, al_13, al_12_0, al_12_1, al_12_2, al_12_3, al_12_4, al_12_5, al_12_6, al_12_7, al_12_8, al_12_9, al_12_10, al_12_11, stepd_ok dX7_giveFormerPlace_0, sf_aload_n0, stepd_ok dX7_giveFormerPlace_1, sf_getfield (P := pr_X7_giveFormerPlace) ftX7_19, stepd_ok dX7_giveFormerPlace_4, sf_aload_n1, stepd_ok dX7_giveFormerPlace_5, sf_inv (P := pr_X7_giveFormerPlace) ca_X7_giveFormerPlace_246 rfl, stepd_ok dX7_giveFormerPlace_8, sf_istore_n2, stepd_ok dX7_giveFormerPlace_9, sf_iload_n2, stepd_ok dX7_giveFormerPlace_10, sf_iconst, stepd_ok dX7_giveFormerPlace_11, jk_at (pc := 11) (off := 14) (t := 25) rfl, jo_at (pc := 11) (off := 14) (t := 25) rfl, sf_if_icmp_ne, stepd_ok dX7_giveFormerPlace_14, stepd_ok dX7_giveFormerPlace_15, sf_getfield (P := pr_X7_giveFormerPlace) ftX7_148, stepd_ok dX7_giveFormerPlace_18, stepd_ok dX7_giveFormerPlace_19, sf_putfield (P := pr_X7_giveFormerPlace) ftX7_152, stepd_ok dX7_giveFormerPlace_22, jk_at (pc := 22) (off := 22) (t := 44) rfl, sf_goto, stepd_ok dX7_giveFormerPlace_25, stepd_ok dX7_giveFormerPlace_26, stepd_ok dX7_giveFormerPlace_29, stepd_ok dX7_giveFormerPlace_30, stepd_ok dX7_giveFormerPlace_33, sf_getfield (P := pr_X7_giveFormerPlace) ftX7_74, stepd_ok dX7_giveFormerPlace_36, stepd_ok dX7_giveFormerPlace_37, sf_aaload, stepd_ok dX7_giveFormerPlace_38, stepd_ok dX7_giveFormerPlace_41, sf_inv (P := pr_X7_giveFormerPlace) ca_X7_giveFormerPlace_249 rfl, stepd_ok dX7_giveFormerPlace_44, sf_vret (P := pr_X7_giveFormerPlace) rfl rfl, sp_X1_numberOf_e, sp_X0_copyFrom_e, Nat.zero_lt_one, z6, he, e145]
      exact kk
    · subst hr
      have kk := k.2 o rfl
      have o24 : (o : Int) < 24 := by unfold cn_ at ho; omega
      have o0 : (0 : Int) ≤ o := by omega
      have ro : inR (o : Int) := by unfold inR; omega
      have ne : ¬ ((o : Int) = -1) := by omega
      obtain ⟨g1, -⟩ := en_lt hP z6 (show o < 24 by omega)
      have g2 : (σ 9 0 o).toNat < 144 := g1
      have g3 : (σ 9 0 o).toNat < 145 := by omega
      obtain ⟨-, b1, b2⟩ := hP.1 _ g3
      refine run hG [] 60 ?_
      simp only [wpn_s, wpn_0, br_T, br_F, st1, st2, true_and, and_true, ↓reduceIte, if_true, if_false, List.contains_nil, List.contains_cons, Bool.or_false, Bool.or_true, Bool.true_or, Bool.false_or, Bool.false_eq_true, bit_0, bit_1, bit_b, true_or, or_true, or_false, false_or, up_e, up_nc, up_nj, ne_eq, not_false_eq_true, not_true_eq_false, inR_n, inR_m1, bi_RT, br_bi, Nat.reduceAdd, Nat.reduceLT, Nat.reduceLeDiff, Nat.reduceEqDiff, Nat.reduceBEq, Nat.zero_le, Int.reduceAdd, Int.reduceNeg, Int.reduceLE, Int.reduceLT, Int.reduceToNat, Int.reduceNatCast, Int.reduceEq, Int.reduceSub, Int.reduceMul, set_0, set_s, len_c, len_n, nc2_0, nc2_1i, nc2_1r, nc2_1j, nc2_s, rcv_e, take_c, take_z, drop_c, drop_z, rev_c, rev_n, app_c, app_n, tol_s, tol_n, Nat.le_refl, s1i_e, s2i_e, s1r_e, sir_e, siir_e, srir_e, c1_i, c1_r, s1v_e, s2v_e, ldv_0, ldv_s, ldx_0, ldx_s, ldi_0, ldi_s, ldr_0, ldr_s, fg_0_0, fg_0_1, fg_0_2, fg_0_3, fg_0_4, fg_0_5, fg_1_0, fg_1_1, fg_1_2, fg_1_3, fg_1_4, fg_1_5, fg_1_6, fg_1_7, fg_2_0, fg_2_1, fg_2_2, fg_2_3, fg_2_4, fg_2_5, fg_3_0, fg_3_1, fg_4_0, fg_4_1, fg_4_2, fg_4_3, fg_4_4, fg_4_5, fg_5_0, fg_5_1, fg_5_2, fg_5_3, fg_5_4, fg_5_5, fg_5_6, fg_6_0, fg_6_1, fg_6_2, fg_6_3, fg_7_0, fg_7_1, fg_7_2, fg_7_3, fg_7_4, fg_7_5, fg_8_0, fg_8_1, fg_8_2, fg_8_3, fg_8_4, fg_8_5, fg_8_6, fg_8_7, fg_8_8, fg_8_9, fg_8_10, fg_8_11, fg_8_12, fg_8_13, cnt_0, cnt_1, cnt_2, cnt_3, cnt_4, cnt_5, cnt_6, cnt_7, cnt_8, cnt_9, cnt_10, cnt_11, cnt_12, cnt_13, cnt_14, fk, rd, al_9, al_10, al_11, al_13, al_12_0, al_12_1, al_12_2, al_12_3, al_12_4, al_12_5, al_12_6, al_12_7, al_12_8, al_12_9, al_12_10, al_12_11, stepd_ok dX7_giveFormerPlace_0, sf_aload_n0, stepd_ok dX7_giveFormerPlace_1, sf_getfield (P := pr_X7_giveFormerPlace) ftX7_19, stepd_ok dX7_giveFormerPlace_4, sf_aload_n1, stepd_ok dX7_giveFormerPlace_5, sf_inv (P := pr_X7_giveFormerPlace) ca_X7_giveFormerPlace_246 rfl, stepd_ok dX7_giveFormerPlace_8, sf_istore_n2, stepd_ok dX7_giveFormerPlace_9, sf_iload_n2, stepd_ok dX7_giveFormerPlace_10, sf_iconst, stepd_ok dX7_giveFormerPlace_11, jk_at (pc := 11) (off := 14) (t := 25) rfl, jo_at (pc := 11) (off := 14) (t := 25) rfl, sf_if_icmp_ne, stepd_ok dX7_giveFormerPlace_14, stepd_ok dX7_giveFormerPlace_15, sf_getfield (P := pr_X7_giveFormerPlace) ftX7_148, stepd_ok dX7_giveFormerPlace_18, stepd_ok dX7_giveFormerPlace_19, sf_putfield (P := pr_X7_giveFormerPlace) ftX7_152, stepd_ok dX7_giveFormerPlace_22, jk_at (pc := 22) (off := 22) (t := 44) rfl, sf_goto, stepd_ok dX7_giveFormerPlace_25, stepd_ok dX7_giveFormerPlace_26, stepd_ok dX7_giveFormerPlace_29, stepd_ok dX7_giveFormerPlace_30, stepd_ok dX7_giveFormerPlace_33, sf_getfield (P := pr_X7_giveFormerPlace) ftX7_74, stepd_ok dX7_giveFormerPlace_36, stepd_ok dX7_giveFormerPlace_37, sf_aaload, stepd_ok dX7_giveFormerPlace_38, stepd_ok dX7_giveFormerPlace_41, sf_inv (P := pr_X7_giveFormerPlace) ca_X7_giveFormerPlace_249 rfl, stepd_ok dX7_giveFormerPlace_44, sf_vret (P := pr_X7_giveFormerPlace) rfl rfl, sp_X1_numberOf_e, sp_X0_copyFrom_e, Nat.zero_lt_one, z6, he, e145, ro, ne, o0, o24, Int.toNat_natCast, g2, g3, b1, b2]
      exact kk
  refine run hG [8] 60 ?_
  simp only [wpn_s, wpn_0, br_T, br_F, st1, st2, true_and, and_true, ↓reduceIte, if_true, if_false, List.contains_nil, List.contains_cons, Bool.or_false, Bool.or_true, Bool.true_or, Bool.false_or, Bool.false_eq_true, bit_0, bit_1, bit_b, true_or, or_true, or_false, false_or, up_e, up_nc, up_nj, ne_eq, not_false_eq_true, not_true_eq_false, inR_n, inR_m1, bi_RT, br_bi, Nat.reduceAdd, Nat.reduceLT, Nat.reduceLeDiff, Nat.reduceEqDiff, Nat.reduceBEq, Nat.zero_le, Int.reduceAdd, Int.reduceNeg, Int.reduceLE, Int.reduceLT, Int.reduceToNat, Int.reduceNatCast, Int.reduceEq, Int.reduceSub, Int.reduceMul, set_0, set_s, len_c, len_n, nc2_0, nc2_1i, nc2_1r, nc2_1j, nc2_s, rcv_e, take_c, take_z, drop_c, drop_z, rev_c, rev_n, app_c, app_n, tol_s, tol_n, Nat.le_refl, s1i_e, s2i_e, s1r_e, sir_e, siir_e, srir_e, c1_i, c1_r, s1v_e, s2v_e, ldv_0, ldv_s, ldx_0, ldx_s, ldi_0, ldi_s, ldr_0, ldr_s, fg_0_0, fg_0_1, fg_0_2, fg_0_3, fg_0_4, fg_0_5, fg_1_0, fg_1_1, fg_1_2, fg_1_3, fg_1_4, fg_1_5, fg_1_6, fg_1_7, fg_2_0, fg_2_1, fg_2_2, fg_2_3, fg_2_4, fg_2_5, fg_3_0, fg_3_1, fg_4_0, fg_4_1, fg_4_2, fg_4_3, fg_4_4, fg_4_5, fg_5_0, fg_5_1, fg_5_2, fg_5_3, fg_5_4, fg_5_5, fg_5_6, fg_6_0, fg_6_1, fg_6_2, fg_6_3, fg_7_0, fg_7_1, fg_7_2, fg_7_3, fg_7_4, fg_7_5, fg_8_0, fg_8_1, fg_8_2, fg_8_3, fg_8_4, fg_8_5, fg_8_6, fg_8_7, fg_8_8, fg_8_9, fg_8_10, fg_8_11, fg_8_12, fg_8_13, cnt_0, cnt_1, cnt_2, cnt_3, cnt_4, cnt_5, cnt_6, cnt_7, cnt_8, cnt_9, cnt_10, cnt_11, cnt_12, cnt_13, cnt_14, fk, rd, al_9, al_10, al_11, al_13, al_12_0, al_12_1, al_12_2, al_12_3, al_12_4, al_12_5, al_12_6, al_12_7, al_12_8, al_12_9, al_12_10, al_12_11, stepd_ok dX7_giveFormerPlace_0, sf_aload_n0, stepd_ok dX7_giveFormerPlace_1, sf_getfield (P := pr_X7_giveFormerPlace) ftX7_19, stepd_ok dX7_giveFormerPlace_4, sf_aload_n1, stepd_ok dX7_giveFormerPlace_5, sf_inv (P := pr_X7_giveFormerPlace) ca_X7_giveFormerPlace_246 rfl, stepd_ok dX7_giveFormerPlace_8, sf_istore_n2, stepd_ok dX7_giveFormerPlace_9, sf_iload_n2, stepd_ok dX7_giveFormerPlace_10, sf_iconst, stepd_ok dX7_giveFormerPlace_11, jk_at (pc := 11) (off := 14) (t := 25) rfl, jo_at (pc := 11) (off := 14) (t := 25) rfl, sf_if_icmp_ne, stepd_ok dX7_giveFormerPlace_14, stepd_ok dX7_giveFormerPlace_15, sf_getfield (P := pr_X7_giveFormerPlace) ftX7_148, stepd_ok dX7_giveFormerPlace_18, stepd_ok dX7_giveFormerPlace_19, sf_putfield (P := pr_X7_giveFormerPlace) ftX7_152, stepd_ok dX7_giveFormerPlace_22, jk_at (pc := 22) (off := 22) (t := 44) rfl, sf_goto, stepd_ok dX7_giveFormerPlace_25, stepd_ok dX7_giveFormerPlace_26, stepd_ok dX7_giveFormerPlace_29, stepd_ok dX7_giveFormerPlace_30, stepd_ok dX7_giveFormerPlace_33, sf_getfield (P := pr_X7_giveFormerPlace) ftX7_74, stepd_ok dX7_giveFormerPlace_36, stepd_ok dX7_giveFormerPlace_37, sf_aaload, stepd_ok dX7_giveFormerPlace_38, stepd_ok dX7_giveFormerPlace_41, sf_inv (P := pr_X7_giveFormerPlace) ca_X7_giveFormerPlace_249 rfl, stepd_ok dX7_giveFormerPlace_44, sf_vret (P := pr_X7_giveFormerPlace) rfl rfl, sp_X1_numberOf_e, sp_X0_copyFrom_e, Nat.zero_lt_one, z6, he, hP, hCl, hl]
  exact ⟨hle, fin⟩
theorem cn_X7_giveFormerPlace (l : Launch) (Γ : Ga) : Cn l Γ yX7_giveFormerPlace (wsy yX7_giveFormerPlace cX7_giveFormerPlace 3 none) rm_X7_giveFormerPlace 0 sp_X7_giveFormerPlace := Cn_of (P := pr_X7_giveFormerPlace) (own := RX7) (by decide) rfl rfl (by decide) rfl ⟨rfl, rfl⟩ ftX7_ok (List.forall_mem_cons.mpr ⟨callV_of (rc := 1) (cn_X1_numberOf l Γ) rfl rfl (List.forall_mem_cons.mpr ⟨wl_X7_246, fun _ h => wm_X1_numberOf h⟩) ⟨rfl, by decide, by decide, by decide +kernel⟩ ⟨by decide, by decide⟩, List.forall_mem_cons.mpr ⟨callV_of (rc := 0) (cn_X0_copyFrom l Γ) rfl rfl (List.forall_mem_cons.mpr ⟨wl_X7_249, fun _ h => wm_X0_copyFrom h⟩) ⟨rfl, by decide, by decide, by decide +kernel⟩ ⟨by decide, by decide⟩, fun _ h => (List.not_mem_nil h).elim⟩⟩) (fun _ h => (List.not_mem_nil h).elim) (fun _ _ _ _ _ _ _ _ _ _ q hq => (List.not_mem_nil hq).elim) sem_X7_giveFormerPlace
/-- what a question asked of the trial, or reading the text into it, may change -/
def FrU (σ σ' : Sto) : Prop := ∀ c' i k : Nat, (c' ≠ 0 ∨ (i ≠ 144 ∧ (i < 24 ∨ 48 ≤ i))) → ((c' ≠ 2 ∧ c' ≠ 10) ∨ i < 24 ∨ 48 ≤ i) → (c' ≠ 1 ∨ i ≠ 1) → (c' ≠ 4 ∨ i ≠ 0 ∨ (k ≠ 4 ∧ k ≠ 5)) → (c' ≠ 5 ∨ i ≠ 0) → (c' ≠ 12 ∨ (i ≠ 0 ∧ i ≠ 1)) → (c' ≠ 6 ∨ i ≠ 0 ∨ (k ≠ 2 ∧ k ≠ 3)) → σ' c' i k = σ c' i k
def TrU (σ σ' : Sto) : Prop := FrU σ σ' ∧ Phy σ' ∧ BxG σ' ∧ (0 ≤ σ' 4 0 5 ∧ σ' 4 0 5 ≤ 24)
theorem tru_p {σ σ' : Sto} (h : TrP σ σ') : TrU σ σ' := ⟨fun c' i k p1 p2 p3 p4 p5 p6 _ => h.1 c' i k p1 p2 p3 p4 p5 p6, h.2⟩
theorem ci_u {σ σ' : Sto} (h : CI σ) (ht : TrU σ σ') : CI σ' := by
  obtain ⟨hP, hG, hC, hS, hn, hsv, hT, hm⟩ := h
  obtain ⟨f, hP', hG', hm'⟩ := ht
  have far : ∀ d, d < 6 → d ≠ 1 → (ClOK σ d → ClOK σ' d) ∧ (SetOK σ d → SetOK σ' d) := fun d hd hne => fr_cl hP hd (fun k => f 1 d k (by omega) (by omega) (by omega) (by omega) (by omega) (by omega) (by omega)) (fun k => f 9 d k (by omega) (by omega) (by omega) (by omega) (by omega) (by omega) (by omega)) (fun i h1 h2 c' k hc => f c' i k (by omega) (by omega) (by omega) (by omega) (by omega) (by omega) (by omega))
  have e3 : σ' 3 0 1 = σ 3 0 1 := f 3 0 1 (by omega) (by omega) (by omega) (by omega) (by omega) (by omega) (by omega)
  have e11 : ∀ j, σ' 11 0 j = σ 11 0 j := fun j => f 11 0 j (by omega) (by omega) (by omega) (by omega) (by omega) (by omega) (by omega)
  refine ⟨hP', hG', (far 0 (by omega) (by omega)).1 hC, (far 0 (by omega) (by omega)).2 hS, by rw [e3]; exact hn, fun j hj => ?_, ?_, hm'⟩
  · rw [e3] at hj
    rw [e11]
    have a := hP.2.2.2.1 j (by omega)
    have b := hsv j hj
    have g := far (σ 11 0 j).toNat (by omega) (by omega)
    exact ⟨g.1 b.1, g.2 b.2⟩
  · unfold TxOK at hT ⊢
    have e1 := f 6 0 1 (by omega) (by omega) (by omega) (by omega) (by omega) (by omega) (by omega)
    have e2 : ∀ k, σ' 12 2 k = σ 12 2 k := fun k => f 12 2 k (by omega) (by omega) (by omega) (by omega) (by omega) (by omega) (by omega)
    rw [e1]
    simp only [e2]
    exact hT
def SamV (V : Nat → Nat → Int) (a : Nat) (V' : Nat → Nat → Int) (b : Nat) : Prop := V a 0 = V' b 0 ∧ ∀ k : Nat, (k : Int) < V a 0 → V a (1 + k) = V' b (1 + k)
/-- the words' attributes as the text tells them -/
def TxtV (h : Int → Int) (V : Nat → Nat → Int) (w : Nat) : Prop := V w 0 = rn isL h (ps h w) 10 ∧ (∀ j : Nat, j < rn isL h (ps h w) 10 → V w (1 + j) = h (ps h w + j) - 97) ∧ V w 11 = num h (qpos h (ps h w)) (rn isD h (qpos h (ps h w)) 4) ∧ V w 12 = h (rpos h (ps h w)) - 48 ∧ V w 13 = h (rpos h (ps h w) + 1) - 48
/-- a word's place is that of the first one with its letters -/
def OldV (N : Nat) (V V' : Nat → Nat → Int) (w : Nat) : Prop := ∃ r, FF (fun o => SamV V o V' w) N r ∧ (r = -1 → ∀ k, 14 ≤ k → k < 19 → V' w k = 0) ∧ ∀ o : Nat, r = o → ∀ k, 14 ≤ k → k < 19 → V' w k = V o k
/-- the text is n good words -/
def TxtN (h : Int → Int) (L : Int) (n : Nat) : Prop := n ≤ 24 ∧ (∀ i, i < n → ps h i < L ∧ itmi h i = -1) ∧ L ≤ ps h n
/-- the text fails at r -/
def TxtF (h : Int → Int) (L : Int) (r : Int) : Prop := ∃ n : Nat, n ≤ 24 ∧ (∀ i, i < n → ps h i < L ∧ itmi h i = -1) ∧ ps h n < L ∧ itmi h n ≠ -1 ∧ r = itmi h n
def ParA (σ τ : Sto) (n : Nat) : Prop := TrU σ τ ∧ ClOK τ 1 ∧ SetOK τ 1 ∧ vS τ 1 5 = n ∧ (∀ k, k < 7 → k ≠ 5 → vS τ 1 k = vS σ 0 k) ∧ TxtN (hrc σ) (σ 6 0 1) n ∧ ∀ w, w < n → TxtV (hrc σ) (vV τ 1) w ∧ OldV (cn_ σ 0) (vV σ 0) (vV τ 1) w
theorem vV_hi {σ : Sto} {c w k : Nat} (h : 14 ≤ k) : vV σ c w k = if σ 0 (en σ c w) 0 = 1 then (if k = 18 then σ 0 (en σ c w) 1 else σ 0 (en σ c w) (k - 12)) else 0 := by unfold vV; rw [if_neg (by omega), if_neg (by omega), if_neg (by omega)]
theorem samv_l {σ : Sto} {c d a b : Nat} (ha : 1 ≤ σ 2 (en σ c a) 2 ∧ σ 2 (en σ c a) 2 ≤ 10) : SamV (vV σ c) a (vV σ d) b ↔ SameL σ (en σ c a) (en σ d b) := by
  have e0 : vV σ c a 0 = σ 2 (en σ c a) 2 := rfl
  have e1 : vV σ d b 0 = σ 2 (en σ d b) 2 := rfl
  have g : ∀ (c a k : Nat), k < 10 → vV σ c a (1 + k) = σ 10 (en σ c a) k := by
    intro c a k hk
    unfold vV
    rw [if_neg (by omega), if_pos (by omega), show 1 + k - 1 = k by omega]
  unfold SamV SameL
  rw [e0, e1]
  constructor
  · rintro ⟨p, q⟩
    exact ⟨p, fun k hk => by have := q k hk; rw [g c a k (by omega), g d b k (by omega)] at this; exact this⟩
  · rintro ⟨p, q⟩
    exact ⟨p, fun k hk => by rw [g c a k (by omega), g d b k (by omega)]; exact q k hk⟩
theorem pif_b {c : Prop} {a b lo hi : Int} (h1 : lo ≤ a ∧ a ≤ hi) (h2 : lo ≤ b ∧ b ≤ hi) : lo ≤ pif c a b ∧ pif c a b ≤ hi := by
  by_cases h : c
  · rw [pif_t h]; exact h1
  · rw [pif_f h]; exact h2
theorem itm_r {h : Int → Int} {full kn : Prop} {p : Int} (h0 : 0 ≤ p) : -1 ≤ itm h full kn p ∧ itm h full kn p ≤ p + 100 := by
  have a := rn_le (P := isL) (h := h) 10 p
  have b := rn_le (P := isD) (h := h) 4 (qpos h p)
  have l : -1 ≤ let0 h kn p ∧ let0 h kn p ≤ p + 100 := pif_b ⟨by omega, by omega⟩ (pif_b ⟨by omega, by omega⟩ ⟨by omega, by omega⟩)
  have q : -1 ≤ wgt0 h (qpos h p) ∧ wgt0 h (qpos h p) ≤ p + 100 := pif_b ⟨by unfold qpos at *; omega, by unfold qpos at *; omega⟩ (pif_b ⟨by unfold qpos at *; omega, by unfold qpos at *; omega⟩ (pif_b ⟨by unfold qpos at *; omega, by unfold qpos at *; omega⟩ ⟨by omega, by omega⟩))
  have r0 : 0 ≤ rpos h p ∧ rpos h p ≤ p + 20 := by unfold rpos; unfold qpos at *; omega
  have d : -1 ≤ dgt h (rpos h p) ∧ dgt h (rpos h p) ≤ p + 100 := pif_b ⟨by omega, by omega⟩ (pif_b ⟨by omega, by omega⟩ (pif_b ⟨by omega, by omega⟩ ⟨by omega, by omega⟩))
  exact pif_b ⟨by omega, by omega⟩ (pif_b l (pif_b q d))
def sp_X7_parse : Spec := fun a σ K KX => ∃ (q : Nat), a = [vr 7 q] ∧ (q < 1 ∧ CI σ ∧ (∀ r τ, TxtF (hrc σ) (σ 6 0 1) r → TrU σ τ → K (some (vi (-10 - r))) τ) ∧ ∀ n τ τ' σ', ParA σ τ n → SavP τ τ' 0 → CldCp τ' σ' 0 1 → K (some (vi n)) σ')
theorem sp_X7_parse_e {q : Nat} {σ : Sto} {K : Option AV → Sto → Prop} {KX : Nat → Sto → Prop} : sp_X7_parse [vr 7 q] σ K KX = (q < 1 ∧ CI σ ∧ (∀ r τ, TxtF (hrc σ) (σ 6 0 1) r → TrU σ τ → K (some (vi (-10 - r))) τ) ∧ ∀ n τ τ' σ', ParA σ τ n → SavP τ τ' 0 → CldCp τ' σ' 0 1 → K (some (vi n)) σ') := propext ⟨fun h => by obtain ⟨_, h, hb⟩ := h; cases h; exact hb, fun hb => ⟨_, rfl, hb⟩⟩
def pr_X7_parse : Par := (ftX7, [(63, (2, 0, 6 + 1, sp_X6_readInto)), (67, (2, 0, 1 + 1, sp_X1_copySettings)), (78, (2, 0, 7 + 1, sp_X7_giveFormerPlace)), (82, (2, 0, 3 + 1, sp_X3_save)), (85, (2, 0, 1 + 1, sp_X1_copyFrom))], [], [], 1, 0, none)
def rm_X7_parse : Room := { frames := 5, cells := 0, slots := 0, locals := 111 }
theorem ca_X7_parse_63 : List.lookup 63 pr_X7_parse.2.1 = some (2, 0, 6 + 1, sp_X6_readInto) := rfl
theorem ca_X7_parse_67 : List.lookup 67 pr_X7_parse.2.1 = some (2, 0, 1 + 1, sp_X1_copySettings) := rfl
theorem ca_X7_parse_78 : List.lookup 78 pr_X7_parse.2.1 = some (2, 0, 7 + 1, sp_X7_giveFormerPlace) := rfl
theorem ca_X7_parse_82 : List.lookup 82 pr_X7_parse.2.1 = some (2, 0, 3 + 1, sp_X3_save) := rfl
theorem ca_X7_parse_85 : List.lookup 85 pr_X7_parse.2.1 = some (2, 0, 1 + 1, sp_X1_copyFrom) := rfl
set_option maxRecDepth 100000 in
set_option maxHeartbeats 4000000 in
theorem sem_X7_parse : Sem pr_X7_parse cX7_parse 3 sp_X7_parse := by
  rintro a σ K KX ⟨q, rfl, hq, hC, hKF, hK⟩
  refine ⟨by simp [vr, vi, nj], Nat.le_of_ble_eq_true rfl, fun G hG => ?_⟩
  have hq0 : q = 0 := by omega
  subst hq0
  have hP := hC.1
  have hTx := hC.2.2.2.2.2.2.1
  have z6 : (0 : Nat) < 6 := by omega
  have z2 : (0 : Nat) < 2 := by omega
  have o6 : (1 : Nat) < 6 := by omega
  have o0 : ¬ ((1 : Nat) = 0) := by omega
  have zo : ¬ ((0 : Nat) = 1) := by omega
  have hbx : ∀ e, 24 * 1 ≤ e → e < 24 * 1 + 24 → σ 0 e 0 = 1 → 0 ≤ σ 0 e 2 ∧ σ 0 e 2 + σ 0 e 4 ≤ 80 ∧ 0 ≤ σ 0 e 3 ∧ σ 0 e 3 + σ 0 e 5 ≤ 50 ∧ 1 ≤ σ 0 e 4 ∧ 1 ≤ σ 0 e 5 := fun e h1 h2 => hC.2.1 e (by omega)
  show G 0 [vr 7 0, vj, vj] [] σ 0
  -- behind the places
  have tail : ∀ (n : Nat) (τ : Sto), ParA σ τ n → G 65 [vr 7 0, vi (-1), vi n] [] τ 0 := by
    intro n τ hA
    have hCτ := ci_u hC hA.1
    have hPτ := hCτ.1
    have hClτ := hCτ.2.2.1
    have c0 := hCτ.2.2.2.2.1.1
    have c4 := hCτ.2.2.2.2.1.2
    refine run hG [] 60 ?_
    simp only [wpn_s, wpn_0, br_T, br_F, st1, st2, true_and, and_true, ↓reduceIte, if_true, if_false, List.contains_nil, List.contains_cons, Bool.or_false, Bool.or_true, Bool.true_or, Bool.false_or, Bool.false_eq_true, bit_0, bit_1, bit_b, true_or, or_true, or_false, false_or, up_e, up_nc, up_nj, ne_eq, not_false_eq_true, not_true_eq_false, inR_n, inR_m1, bi_RT, br_bi, Nat.reduceAdd, Nat.reduceLT, Nat.reduceLeDiff, Nat.reduceEqDiff, Nat.reduceBEq, Nat.zero_le, Int.reduceAdd, Int.reduceNeg, Int.reduceLE, Int.reduceLT, Int.reduceToNat, Int.reduceNatCast, Int.reduceEq, Int.reduceSub, Int.reduceMul, set_0, set_s, len_c, len_n, nc2_0, nc2_1i, nc2_1r, nc2_1j, nc2_s, rcv_e, take_c, take_z, drop_c, drop_z, rev_c, rev_n, app_c, app_n, tol_s, tol_n, Nat.le_refl, s1i_e, s2i_e, s1r_e, sir_e, siir_e, srir_e, c1_i, c1_r, s1v_e, s2v_e, ldv_0, ldv_s, ldx_0, ldx_s, ldi_0, ldi_s, ldr_0, ldr_s, fg_0_0, fg_0_1, fg_0_2, fg_0_3, fg_0_4, fg_0_5, fg_1_0, fg_1_1, fg_1_2, fg_1_3, fg_1_4, fg_1_5, fg_1_6, fg_1_7, fg_2_0, fg_2_1, fg_2_2, fg_2_3, fg_2_4, fg_2_5, fg_3_0, fg_3_1, fg_4_0, fg_4_1, fg_4_2, fg_4_3, fg_4_4, fg_4_5, fg_5_0, fg_5_1, fg_5_2, fg_5_3, fg_5_4, fg_5_5, fg_5_6, fg_6_0, fg_6_1, fg_6_2, fg_6_3, fg_7_0, fg_7_1, fg_7_2, fg_7_3, fg_7_4, fg_7_5, fg_8_0, fg_8_1, fg_8_2, fg_8_3, fg_8_4, fg_8_5, fg_8_6, fg_8_7, fg_8_8, fg_8_9, fg_8_10, fg_8_11, fg_8_12, fg_8_13, cnt_0, cnt_1, cnt_2, cnt_3, cnt_4, cnt_5, cnt_6, cnt_7, cnt_8, cnt_9, cnt_10, cnt_11, cnt_12, cnt_13, cnt_14, fk, rd, al_9, al_10, al_11, al_13, al_12_0, al_12_1, al_12_2, al_12_3, al_12_4, al_12_5, al_12_6, al_12_7, al_12_8, al_12_9, al_12_10, al_12_11, stepd_ok dX7_parse_0, sf_aload_n0, stepd_ok dX7_parse_1, sf_getfield (P := pr_X7_parse) ftX7_10, stepd_ok dX7_parse_4, stepd_ok dX7_parse_5, sf_getfield (P := pr_X7_parse) ftX7_23, stepd_ok dX7_parse_8, sf_inv (P := pr_X7_parse) ca_X7_parse_63 rfl, stepd_ok dX7_parse_11, sf_istore_n1, stepd_ok dX7_parse_12, sf_iload_n1, stepd_ok dX7_parse_13, sf_iconst, stepd_ok dX7_parse_14, jk_at (pc := 14) (off := 8) (t := 22) rfl, jo_at (pc := 14) (off := 8) (t := 22) rfl, sf_if_icmp_eq, stepd_ok dX7_parse_17, sf_bipush, stepd_ok dX7_parse_19, stepd_ok dX7_parse_20, sf_isub, stepd_ok dX7_parse_21, stepd_ok dX7_parse_22, stepd_ok dX7_parse_23, stepd_ok dX7_parse_26, stepd_ok dX7_parse_27, sf_getfield (P := pr_X7_parse) ftX7_19, stepd_ok dX7_parse_30, sf_inv (P := pr_X7_parse) ca_X7_parse_67 rfl, stepd_ok dX7_parse_33, stepd_ok dX7_parse_34, sf_istore_n2, stepd_ok dX7_parse_35, sf_iload_n2, stepd_ok dX7_parse_36, stepd_ok dX7_parse_37, stepd_ok dX7_parse_40, sf_getfield (P := pr_X7_parse) ftX7_71, stepd_ok dX7_parse_43, jk_at (pc := 43) (off := 22) (t := 65) rfl, jo_at (pc := 43) (off := 22) (t := 65) rfl, sf_if_icmp_ge, stepd_ok dX7_parse_46, stepd_ok dX7_parse_47, stepd_ok dX7_parse_48, stepd_ok dX7_parse_51, sf_getfield (P := pr_X7_parse) ftX7_74, stepd_ok dX7_parse_54, stepd_ok dX7_parse_55, sf_aaload, stepd_ok dX7_parse_56, sf_inv (P := pr_X7_parse) ca_X7_parse_78 rfl, stepd_ok dX7_parse_59, sf_iinc, stepd_ok dX7_parse_62, jk_at (pc := 62) (off := -27) (t := 35) rfl, sf_goto, stepd_ok dX7_parse_65, stepd_ok dX7_parse_66, sf_getfield (P := pr_X7_parse) ftX7_29, stepd_ok dX7_parse_69, stepd_ok dX7_parse_70, stepd_ok dX7_parse_73, sf_inv (P := pr_X7_parse) ca_X7_parse_82 rfl, stepd_ok dX7_parse_76, stepd_ok dX7_parse_77, stepd_ok dX7_parse_80, stepd_ok dX7_parse_81, stepd_ok dX7_parse_84, sf_inv (P := pr_X7_parse) ca_X7_parse_85 rfl, stepd_ok dX7_parse_87, stepd_ok dX7_parse_88, stepd_ok dX7_parse_91, stepd_ok dX7_parse_94, sf_iret1 (P := pr_X7_parse) rfl rfl, sp_X6_readInto_e, sp_X1_copySettings_e, sp_X7_giveFormerPlace_e, sp_X3_save_e, sp_X1_copyFrom_e, Nat.zero_lt_one, z6, z2, o6, zo, hPτ, hClτ, c0, c4]
    intro τ' hs
    have h := savp_ci hCτ hs
    obtain ⟨sa, sb, sg, s, s2, s6, se, s_a, s_b, f⟩ := hs
    have hCl1 : ClOK τ' 1 := (fr_cl hPτ (d := 1) (by omega) (fun k => f 1 1 k (by omega) (by omega) (by omega) (by omega)) (fun k => f 9 1 k (by omega) (by omega) (by omega) (by omega)) (fun i h1 h2 c' k hc => f c' i k (by omega) (by omega) (by omega) (by omega))).1 hA.2.1
    refine ⟨h.1, hCl1, fun σ' hcp => ?_⟩
    have e := hcp.1 1 (by omega) (by omega)
    have e2 : τ' 1 1 1 = τ 1 1 1 := f 1 1 1 (by omega) (by omega) (by omega) (by omega)
    have e3 : τ 1 1 1 = n := hA.2.2.2.1
    rw [e, e2, e3]
    exact hK n τ τ' σ' hA ⟨sa, sb, sg, s, s2, s6, se, s_a, s_b, f⟩ hcp
  have go : ∀ r τ, RdiP σ τ 1 r → G 11 [vr 7 0, vj, vj] [vi r] τ 0 := by
    intro r τ hR
    obtain ⟨n, n24, good, hcn, hws, hend, f⟩ := hR
    have hfU : FrU σ τ := fun c' i k p1 p2 p3 p4 p5 p6 p7 => f c' i k (by omega) (by omega) (by omega) p7
    have hPτ : Phy τ := phy_congr (fun c i k h => f c i k (by omega) (by omega) (by omega) (by omega)) hP
    have f0 : ∀ i k, τ 0 i k = σ 0 i k := fun i k => f 0 i k (by omega) (by omega) (by omega) (by omega)
    have hGτ : BxG τ := by intro e he h0; simp only [f0] at h0 ⊢; exact hC.2.1 e he h0
    have hU : TrU σ τ := ⟨hfU, hPτ, hGτ, by rw [f 4 0 5 (by omega) (by omega) (by omega) (by omega)]; exact hC.2.2.2.2.2.2.2⟩
    rcases hend with ⟨hlen, hr⟩ | ⟨hlen, hne, hr⟩
    · subst hr
      have hCτ := ci_u hC hU
      have een : ∀ c j, en τ c j = en σ c j := fun c j => by unfold en; rw [f 9 c j (by omega) (by omega) (by omega) (by omega)]
      -- the settings are copied; then the places
      have go2 : ∀ τ2 : Sto, (∀ k : Nat, 2 ≤ k → k ≤ 7 → τ2 1 1 k = τ 1 0 k) → (∀ c' i k : Nat, (c' ≠ 1 ∨ i ≠ 1 ∨ k < 2) → τ2 c' i k = τ c' i k) → G 33 [vr 7 0, vi (-1), vj] [] τ2 0 := by
        intro τ2 hset hfr
        have u : ∀ c' i k : Nat, c' ≠ 1 → τ2 c' i k = τ c' i k := fun c' i k h => hfr c' i k (Or.inl h)
        have hP2 : Phy τ2 := phy_congr (fun c i k h => u c i k (by omega)) hPτ
        have hG2 : BxG τ2 := by intro e he h0; simp only [u 0 _ _ (show (0 : Nat) ≠ 1 by omega)] at h0 ⊢; exact hGτ e he h0
        have en2 : ∀ c j, en τ2 c j = en σ c j := fun c j => by rw [← een c j]; unfold en; rw [u 9 c j (by omega)]
        have cn2 : cn_ τ2 1 = n := by unfold cn_; rw [hfr 1 1 1 (by omega), hcn]; omega
        have cn0 : cn_ τ2 0 = cn_ σ 0 := by unfold cn_; rw [hfr 1 0 1 (by omega), f 1 0 1 (by omega) (by omega) (by omega) (by omega)]
        have cnt2 : τ2 1 1 1 = n := by rw [hfr 1 1 1 (by omega), hcn]
        have w2 : ∀ w, w < n → WordIs τ2 (en σ 1 w) (hrc σ) (ps (hrc σ) w) := by
          intro w hw
          obtain ⟨⟨a1, a2⟩, a3, a4, a5⟩ := hws w hw
          exact ⟨⟨by rw [u 2 _ _ (by omega)]; exact a1, fun j hj => by rw [u 10 _ _ (by omega)]; exact a2 j hj⟩, by rw [u 2 _ _ (by omega)]; exact a3, by rw [u 2 _ _ (by omega)]; exact a4, by rw [u 2 _ _ (by omega)]; exact a5⟩
        have hE : ∀ (ρ : Sto), (∀ c' i k : Nat, c' ≠ 0 → ρ c' i k = τ2 c' i k) → BxG ρ → ∀ w, w < n → EntOK ρ (en σ 1 w) := by
          intro ρ hρ hg w hw
          have he := en_lt hP o6 (show w < 24 by omega)
          refine word_ok (ps_r w) ?_ (good w hw).2 (hg _ he.1)
          obtain ⟨⟨a1, a2⟩, a3, a4, a5⟩ := w2 w hw
          exact ⟨⟨by rw [hρ 2 _ _ (by omega)]; exact a1, fun j hj => by rw [hρ 10 _ _ (by omega)]; exact a2 j hj⟩, by rw [hρ 2 _ _ (by omega)]; exact a3, by rw [hρ 2 _ _ (by omega)]; exact a4, by rw [hρ 2 _ _ (by omega)]; exact a5⟩
        have loop : ∀ (m i : Nat) (ρ : Sto), i + m = n → (∀ c' i k : Nat, (c' ≠ 0 ∨ i < 24 ∨ 48 ≤ i) → ρ c' i k = τ2 c' i k) → Phy ρ → BxG ρ → (∀ j, j < i → ∃ r, FF (fun o => SameL τ2 (en σ 0 o) (en σ 1 j)) (cn_ σ 0) r ∧ (r = -1 → ρ 0 (en σ 1 j) 0 = 0) ∧ ∀ o : Nat, r = o → ∀ k, k < 6 → ρ 0 (en σ 1 j) k = τ2 0 (en σ 0 o) k) → G 35 [vr 7 0, vi (-1), vi i] [] ρ 0 := by
          intro m
          induction m with
          | zero =>
            intro i ρ hi hρ hPρ hGρ hpl
            have ein : i = n := by omega
            subst ein
            have hρ0 : ∀ c' i k : Nat, c' ≠ 0 → ρ c' i k = τ2 c' i k := fun c' i k h => hρ c' i k (Or.inl h)
            have enρ : ∀ c j, en ρ c j = en σ c j := fun c j => by rw [← en2 c j]; unfold en; rw [hρ0 9 c j (by omega)]
            have hfinal : ParA σ ρ i := by
              have vs : ∀ k, k < 7 → k ≠ 5 → vS ρ 1 k = vS σ 0 k := by
                intro k hk h5
                have g : ∀ q, 2 ≤ q → q ≤ 7 → ρ 1 1 q = σ 1 0 q := fun q h1 h2 => by rw [hρ0 1 1 q (by omega), hset q h1 h2, f 1 0 q (by omega) (by omega) (by omega) (by omega)]
                rcases (show k = 0 ∨ k = 1 ∨ k = 2 ∨ k = 3 ∨ k = 4 ∨ k = 6 by omega) with e | e | e | e | e | e <;> subst e
                · exact g 2 (by omega) (by omega)
                · exact g 3 (by omega) (by omega)
                · exact g 4 (by omega) (by omega)
                · exact g 5 (by omega) (by omega)
                · exact g 6 (by omega) (by omega)
                · exact g 7 (by omega) (by omega)
              have hSO : SetOK ρ 1 := by
                have := hC.2.2.2.1
                unfold SetOK at this ⊢
                have g : ∀ q, 2 ≤ q → q ≤ 7 → ρ 1 1 q = σ 1 0 q := fun q h1 h2 => by rw [hρ0 1 1 q (by omega), hset q h1 h2, f 1 0 q (by omega) (by omega) (by omega) (by omega)]
                rw [g 2 (by omega) (by omega), g 3 (by omega) (by omega), g 4 (by omega) (by omega), g 5 (by omega) (by omega), g 6 (by omega) (by omega), g 7 (by omega) (by omega)]
                exact this
              have hcρ : ρ 1 1 1 = i := by rw [hρ0 1 1 1 (by omega), cnt2]
              have cρ : cn_ ρ 1 = i := by unfold cn_; rw [hcρ]; omega
              refine ⟨⟨fun c' i k p1 p2 p3 p4 p5 p6 p7 => ?_, hPρ, hGρ, ?_⟩, ⟨by rw [hcρ]; omega, fun w hw => ?_⟩, hSO, hcρ, vs, ⟨n24, good, hlen⟩, fun w hw => ⟨?_, ?_⟩⟩
              · rw [hρ c' i k (by omega), hfr c' i k (by omega)]
                exact f c' i k (by omega) (by omega) (by omega) p7
              · rw [hρ0 4 0 5 (by omega), u 4 0 5 (by omega)]; exact hU.2.2.2
              · rw [cρ] at hw; rw [enρ]; exact hE ρ hρ0 hGρ w hw
              · obtain ⟨⟨a1, a2⟩, a3, a4, a5⟩ := w2 w hw
                have h10 := rn_le (P := isL) (h := hrc σ) 10 (ps (hrc σ) w)
                have v2 : ∀ k, ρ 2 (en ρ 1 w) k = τ2 2 (en σ 1 w) k := fun k => by rw [enρ, hρ0 2 _ _ (by omega)]
                refine ⟨?_, fun j hj => ?_, ?_, ?_, ?_⟩
                · show ρ 2 (en ρ 1 w) 2 = _; rw [v2]; exact a1
                · unfold vV
                  rw [if_neg (by omega), if_pos (by omega), show 1 + j - 1 = j by omega, enρ, hρ0 10 _ _ (by omega)]
                  exact a2 j hj
                · show ρ 2 (en ρ 1 w) 3 = _; rw [v2]; exact a3
                · show ρ 2 (en ρ 1 w) 4 = _; rw [v2]; exact a4
                · show ρ 2 (en ρ 1 w) 5 = _; rw [v2]; exact a5
              · obtain ⟨r, r1, r2, r3⟩ := hpl w hw
                have hE0 : ∀ o, o < cn_ σ 0 → EntOK σ (en σ 0 o) := hC.2.2.1.2
                have c24 : cn_ σ 0 ≤ 24 := by have := hC.2.2.1.1; unfold cn_; omega
                have t0 : ∀ o, o < cn_ σ 0 → ∀ c' k : Nat, c' = 0 ∨ c' = 2 ∨ c' = 10 → τ2 c' (en σ 0 o) k = σ c' (en σ 0 o) k := by
                  intro o ho c' k hc
                  have := en_lt hP z6 (show o < 24 by omega)
                  rw [u c' _ k (by omega), f c' _ k (by omega) (by omega) (by omega) (by omega)]
                have same : ∀ o, o < cn_ σ 0 → (SamV (vV σ 0) o (vV ρ 1) w ↔ SameL τ2 (en σ 0 o) (en σ 1 w)) := by
                  intro o ho
                  have hEo := (hE0 o ho).1
                  have h0 : vV σ 0 o 0 = σ 2 (en σ 0 o) 2 := rfl
                  have h1 : vV ρ 1 w 0 = τ2 2 (en σ 1 w) 2 := by show ρ 2 (en ρ 1 w) 2 = _; rw [enρ, hρ0 2 _ _ (by omega)]
                  unfold SamV SameL
                  rw [h0, h1, t0 o ho 2 2 (by omega)]
                  have g : ∀ k : Nat, (k : Int) < σ 2 (en σ 0 o) 2 → (vV σ 0 o (1 + k) = vV ρ 1 w (1 + k) ↔ τ2 10 (en σ 0 o) k = τ2 10 (en σ 1 w) k) := by
                    intro k hk
                    unfold vV
                    rw [if_neg (by omega), if_pos (by omega), if_neg (by omega), if_pos (by omega), show 1 + k - 1 = k by omega, enρ, hρ0 10 _ _ (by omega), t0 o ho 10 k (by omega)]
                  exact ⟨fun z => ⟨z.1, fun k hk => (g k hk).mp (z.2 k hk)⟩, fun z => ⟨z.1, fun k hk => (g k hk).mpr (z.2 k hk)⟩⟩
                refine ⟨r, ?_, fun hr k h1 h2 => ?_, fun o ho k h1 h2 => ?_⟩
                · rcases r1 with ⟨a, b⟩ | ⟨o, ho, a, b, d⟩
                  · exact Or.inl ⟨a, fun o ho z => b o ho ((same o ho).mp z)⟩
                  · exact Or.inr ⟨o, ho, a, (same o ho).mpr b, fun j hj z => d j hj ((same j (by omega)).mp z)⟩
                · have := r2 hr
                  unfold vV
                  rw [if_neg (by omega), if_neg (by omega), if_neg (by omega), if_neg (by rw [enρ, this]; decide)]
                · have g := r3 o ho
                  have ho' : o < cn_ σ 0 := by
                    rcases r1 with ⟨a, b⟩ | ⟨o', ho', a, b, d⟩
                    · omega
                    · omega
                  have g' : ∀ k, k < 6 → ρ 0 (en ρ 1 w) k = σ 0 (en σ 0 o) k := fun k hk => by rw [enρ, g k hk, t0 o ho' 0 k (by omega)]
                  rw [vV_hi h1, vV_hi h1, g' 0 (by omega), g' 1 (by omega)]
                  by_cases e18 : k = 18
                  · rw [if_pos e18, if_pos e18]
                  · rw [if_neg e18, if_neg e18, g' (k - 12) (by omega)]
            have tl := tail i ρ hfinal
            have c1 : ρ 1 1 1 = i := by rw [hρ0 1 1 1 (by omega), cnt2]
            have ri : inR (i : Int) := by unfold inR; omega
            refine run hG [65] 60 ?_
            simp only [wpn_s, wpn_0, br_T, br_F, st1, st2, true_and, and_true, ↓reduceIte, if_true, if_false, List.contains_nil, List.contains_cons, Bool.or_false, Bool.or_true, Bool.true_or, Bool.false_or, Bool.false_eq_true, bit_0, bit_1, bit_b, true_or, or_true, or_false, false_or, up_e, up_nc, up_nj, ne_eq, not_false_eq_true, not_true_eq_false, inR_n, inR_m1, bi_RT, br_bi, Nat.reduceAdd, Nat.reduceLT, Nat.reduceLeDiff, Nat.reduceEqDiff, Nat.reduceBEq, Nat.zero_le, Int.reduceAdd, Int.reduceNeg, Int.reduceLE, Int.reduceLT, Int.reduceToNat, Int.reduceNatCast, Int.reduceEq, Int.reduceSub, Int.reduceMul, set_0, set_s, len_c, len_n, nc2_0, nc2_1i, nc2_1r, nc2_1j, nc2_s, rcv_e, take_c, take_z, drop_c, drop_z, rev_c, rev_n, app_c, app_n, tol_s, tol_n, Nat.le_refl, s1i_e, s2i_e, s1r_e, sir_e, siir_e, srir_e, c1_i, c1_r, s1v_e, s2v_e, ldv_0, ldv_s, ldx_0, ldx_s, ldi_0, ldi_s, ldr_0, ldr_s, fg_0_0, fg_0_1, fg_0_2, fg_0_3, fg_0_4, fg_0_5, fg_1_0, fg_1_1, fg_1_2, fg_1_3, fg_1_4, fg_1_5, fg_1_6, fg_1_7, fg_2_0, fg_2_1, fg_2_2, fg_2_3, fg_2_4, fg_2_5, fg_3_0, fg_3_1, fg_4_0, fg_4_1, fg_4_2, fg_4_3, fg_4_4, fg_4_5, fg_5_0, fg_5_1, fg_5_2, fg_5_3, fg_5_4, fg_5_5, fg_5_6, fg_6_0, fg_6_1, fg_6_2, fg_6_3, fg_7_0, fg_7_1, fg_7_2, fg_7_3, fg_7_4, fg_7_5, fg_8_0, fg_8_1, fg_8_2, fg_8_3, fg_8_4, fg_8_5, fg_8_6, fg_8_7, fg_8_8, fg_8_9, fg_8_10, fg_8_11, fg_8_12, fg_8_13, cnt_0, cnt_1, cnt_2, cnt_3, cnt_4, cnt_5, cnt_6, cnt_7, cnt_8, cnt_9, cnt_10, cnt_11, cnt_12, cnt_13, cnt_14, fk, rd, al_9, al_10, al_11, al_13, al_12_0, al_12_1, al_12_2, al_12_3, al_12_4, al_12_5, al_12_6, al_12_7, al_12_8, al_12_9, al_12_10, al_12_11, stepd_ok dX7_parse_0, sf_aload_n0, stepd_ok dX7_parse_1, sf_getfield (P := pr_X7_parse) ftX7_10, stepd_ok dX7_parse_4, stepd_ok dX7_parse_5, sf_getfield (P := pr_X7_parse) ftX7_23, stepd_ok dX7_parse_8, sf_inv (P := pr_X7_parse) ca_X7_parse_63 rfl, stepd_ok dX7_parse_11, sf_istore_n1, stepd_ok dX7_parse_12, sf_iload_n1, stepd_ok dX7_parse_13, sf_iconst, stepd_ok dX7_parse_14, jk_at (pc := 14) (off := 8) (t := 22) rfl, jo_at (pc := 14) (off := 8) (t := 22) rfl, sf_if_icmp_eq, stepd_ok dX7_parse_17, sf_bipush, stepd_ok dX7_parse_19, stepd_ok dX7_parse_20, sf_isub, stepd_ok dX7_parse_21, stepd_ok dX7_parse_22, stepd_ok dX7_parse_23, stepd_ok dX7_parse_26, stepd_ok dX7_parse_27, sf_getfield (P := pr_X7_parse) ftX7_19, stepd_ok dX7_parse_30, sf_inv (P := pr_X7_parse) ca_X7_parse_67 rfl, stepd_ok dX7_parse_33, stepd_ok dX7_parse_34, sf_istore_n2, stepd_ok dX7_parse_35, sf_iload_n2, stepd_ok dX7_parse_36, stepd_ok dX7_parse_37, stepd_ok dX7_parse_40, sf_getfield (P := pr_X7_parse) ftX7_71, stepd_ok dX7_parse_43, jk_at (pc := 43) (off := 22) (t := 65) rfl, jo_at (pc := 43) (off := 22) (t := 65) rfl, sf_if_icmp_ge, stepd_ok dX7_parse_46, stepd_ok dX7_parse_47, stepd_ok dX7_parse_48, stepd_ok dX7_parse_51, sf_getfield (P := pr_X7_parse) ftX7_74, stepd_ok dX7_parse_54, stepd_ok dX7_parse_55, sf_aaload, stepd_ok dX7_parse_56, sf_inv (P := pr_X7_parse) ca_X7_parse_78 rfl, stepd_ok dX7_parse_59, sf_iinc, stepd_ok dX7_parse_62, jk_at (pc := 62) (off := -27) (t := 35) rfl, sf_goto, stepd_ok dX7_parse_65, stepd_ok dX7_parse_66, sf_getfield (P := pr_X7_parse) ftX7_29, stepd_ok dX7_parse_69, stepd_ok dX7_parse_70, stepd_ok dX7_parse_73, sf_inv (P := pr_X7_parse) ca_X7_parse_82 rfl, stepd_ok dX7_parse_76, stepd_ok dX7_parse_77, stepd_ok dX7_parse_80, stepd_ok dX7_parse_81, stepd_ok dX7_parse_84, sf_inv (P := pr_X7_parse) ca_X7_parse_85 rfl, stepd_ok dX7_parse_87, stepd_ok dX7_parse_88, stepd_ok dX7_parse_91, stepd_ok dX7_parse_94, sf_iret1 (P := pr_X7_parse) rfl rfl, sp_X6_readInto_e, sp_X1_copySettings_e, sp_X7_giveFormerPlace_e, sp_X3_save_e, sp_X1_copyFrom_e, z6, o6, c1, ri]
            exact ⟨fun h => absurd h (by omega), fun _ => tl⟩
          | succ m ih =>
            intro i ρ hi hρ hPρ hGρ hpl
            have hρ0 : ∀ c' i k : Nat, c' ≠ 0 → ρ c' i k = τ2 c' i k := fun c' i k h => hρ c' i k (Or.inl h)
            have enρ : ∀ c j, en ρ c j = en σ c j := fun c j => by rw [← en2 c j]; unfold en; rw [hρ0 9 c j (by omega)]
            have c1 : ρ 1 1 1 = n := by rw [hρ0 1 1 1 (by omega), cnt2]
            have ri : inR (i : Int) := by unfold inR; omega
            have rn_ : inR (n : Int) := by unfold inR; omega
            have lt : (i : Int) < n := by omega
            have i0 : (0 : Int) ≤ i := by omega
            have i24 : (i : Int) < 24 := by omega
            have hen := en_lt hP o6 (show i < 24 by omega)
            have e9 : (ρ 9 1 i).toNat = en σ 1 i := by rw [← enρ 1 i]; rfl
            have e144 := hen.1
            have hEi := hE ρ hρ0 hGρ i (by omega)
            have hl : inR (ρ 2 (en σ 1 i) 2) := by have := hEi.1; unfold inR; omega
            have hCl0 : ClOK ρ 0 := by
              refine cl_congr (σ := σ) (by rw [hρ0 1 0 1 (by omega), hfr 1 0 1 (by omega), f 1 0 1 (by omega) (by omega) (by omega) (by omega)]) (fun k => by rw [hρ0 9 0 k (by omega), u 9 0 k (by omega), f 9 0 k (by omega) (by omega) (by omega) (by omega)]) (fun o ho c' k hc => ?_) hC.2.2.1
              have := en_lt hP z6 (show o < 24 by have := hC.2.2.1.1; unfold cn_ at ho; omega)
              rw [hρ c' _ k (by omega), u c' _ k (by omega), f c' _ k (by omega) (by omega) (by omega) (by omega)]
            have cnρ : cn_ ρ 0 = cn_ σ 0 := by rw [← cn0]; unfold cn_; rw [hρ0 1 0 1 (by omega)]
            refine run hG [35] 60 ?_
            simp only [wpn_s, wpn_0, br_T, br_F, st1, st2, true_and, and_true, ↓reduceIte, if_true, if_false, List.contains_nil, List.contains_cons, Bool.or_false, Bool.or_true, Bool.true_or, Bool.false_or, Bool.false_eq_true, bit_0, bit_1, bit_b, true_or, or_true, or_false, false_or, up_e, up_nc, up_nj, ne_eq, not_false_eq_true, not_true_eq_false, inR_n, inR_m1, bi_RT, br_bi, Nat.reduceAdd, Nat.reduceLT, Nat.reduceLeDiff, Nat.reduceEqDiff, Nat.reduceBEq, Nat.zero_le, Int.reduceAdd, Int.reduceNeg, Int.reduceLE, Int.reduceLT, Int.reduceToNat, Int.reduceNatCast, Int.reduceEq, Int.reduceSub, Int.reduceMul, set_0, set_s, len_c, len_n, nc2_0, nc2_1i, nc2_1r, nc2_1j, nc2_s, rcv_e, take_c, take_z, drop_c, drop_z, rev_c, rev_n, app_c, app_n, tol_s, tol_n, Nat.le_refl, s1i_e, s2i_e, s1r_e, sir_e, siir_e, srir_e, c1_i, c1_r, s1v_e, s2v_e, ldv_0, ldv_s, ldx_0, ldx_s, ldi_0, ldi_s, ldr_0, ldr_s, fg_0_0, fg_0_1, fg_0_2, fg_0_3, fg_0_4, fg_0_5, fg_1_0, fg_1_1, fg_1_2, fg_1_3, fg_1_4, fg_1_5, fg_1_6, fg_1_7, fg_2_0, fg_2_1, fg_2_2, fg_2_3, fg_2_4, fg_2_5, fg_3_0, fg_3_1, fg_4_0, fg_4_1, fg_4_2, fg_4_3, fg_4_4, fg_4_5, fg_5_0, fg_5_1, fg_5_2, fg_5_3, fg_5_4, fg_5_5, fg_5_6, fg_6_0, fg_6_1, fg_6_2, fg_6_3, fg_7_0, fg_7_1, fg_7_2, fg_7_3, fg_7_4, fg_7_5, fg_8_0, fg_8_1, fg_8_2, fg_8_3, fg_8_4, fg_8_5, fg_8_6, fg_8_7, fg_8_8, fg_8_9, fg_8_10, fg_8_11, fg_8_12, fg_8_13, cnt_0, cnt_1, cnt_2, cnt_3, cnt_4, cnt_5, cnt_6, cnt_7, cnt_8, cnt_9, cnt_10, cnt_11, cnt_12, cnt_13, cnt_14, fk, rd, al_9, al_10, al_11, al_13, al_12_0, al_12_1, al_12_2, al_12_3, al_12_4, al_12_5, al_12_6, al_12_7, al_12_8, al_12_9, al_12_10, al_12_11, stepd_ok dX7_parse_0, sf_aload_n0, stepd_ok dX7_parse_1, sf_getfield (P := pr_X7_parse) ftX7_10, stepd_ok dX7_parse_4, stepd_ok dX7_parse_5, sf_getfield (P := pr_X7_parse) ftX7_23, stepd_ok dX7_parse_8, sf_inv (P := pr_X7_parse) ca_X7_parse_63 rfl, stepd_ok dX7_parse_11, sf_istore_n1, stepd_ok dX7_parse_12, sf_iload_n1, stepd_ok dX7_parse_13, sf_iconst, stepd_ok dX7_parse_14, jk_at (pc := 14) (off := 8) (t := 22) rfl, jo_at (pc := 14) (off := 8) (t := 22) rfl, sf_if_icmp_eq, stepd_ok dX7_parse_17, sf_bipush, stepd_ok dX7_parse_19, stepd_ok dX7_parse_20, sf_isub, stepd_ok dX7_parse_21, stepd_ok dX7_parse_22, stepd_ok dX7_parse_23, stepd_ok dX7_parse_26, stepd_ok dX7_parse_27, sf_getfield (P := pr_X7_parse) ftX7_19, stepd_ok dX7_parse_30, sf_inv (P := pr_X7_parse) ca_X7_parse_67 rfl, stepd_ok dX7_parse_33, stepd_ok dX7_parse_34, sf_istore_n2, stepd_ok dX7_parse_35, sf_iload_n2, stepd_ok dX7_parse_36, stepd_ok dX7_parse_37, stepd_ok dX7_parse_40, sf_getfield (P := pr_X7_parse) ftX7_71, stepd_ok dX7_parse_43, jk_at (pc := 43) (off := 22) (t := 65) rfl, jo_at (pc := 43) (off := 22) (t := 65) rfl, sf_if_icmp_ge, stepd_ok dX7_parse_46, stepd_ok dX7_parse_47, stepd_ok dX7_parse_48, stepd_ok dX7_parse_51, sf_getfield (P := pr_X7_parse) ftX7_74, stepd_ok dX7_parse_54, stepd_ok dX7_parse_55, sf_aaload, stepd_ok dX7_parse_56, sf_inv (P := pr_X7_parse) ca_X7_parse_78 rfl, stepd_ok dX7_parse_59, sf_iinc, stepd_ok dX7_parse_62, jk_at (pc := 62) (off := -27) (t := 35) rfl, sf_goto, stepd_ok dX7_parse_65, stepd_ok dX7_parse_66, sf_getfield (P := pr_X7_parse) ftX7_29, stepd_ok dX7_parse_69, stepd_ok dX7_parse_70, stepd_ok dX7_parse_73, sf_inv (P := pr_X7_parse) ca_X7_parse_82 rfl, stepd_ok dX7_parse_76, stepd_ok dX7_parse_77, stepd_ok dX7_parse_80, stepd_ok dX7_parse_81, stepd_ok dX7_parse_84, sf_inv (P := pr_X7_parse) ca_X7_parse_85 rfl, stepd_ok dX7_parse_87, stepd_ok dX7_parse_88, stepd_ok dX7_parse_91, stepd_ok dX7_parse_94, sf_iret1 (P := pr_X7_parse) rfl rfl, sp_X6_readInto_e, sp_X1_copySettings_e, sp_X7_giveFormerPlace_e, sp_X3_save_e, sp_X1_copyFrom_e, Nat.zero_lt_one, z6, o6, c1, ri, rn_, lt, i0, i24, Int.toNat_natCast, e9, e144, hPρ, hCl0, hl]
            refine ⟨fun k hk => ?_, fun r hr => ?_⟩
            · have := hEi.2.1 k hk; unfold inR; omega
            · simp only [enρ, cnρ] at hr
              have hr2 : FF (fun o => SameL τ2 (en σ 0 o) (en σ 1 i)) (cn_ σ 0) r := by
                have e : ∀ o, SameL ρ (en σ 0 o) (en σ 1 i) ↔ SameL τ2 (en σ 0 o) (en σ 1 i) := by
                  intro o
                  unfold SameL
                  simp only [hρ0 2 _ _ (show (2 : Nat) ≠ 0 by omega), hρ0 10 _ _ (show (10 : Nat) ≠ 0 by omega)]
                rcases hr with ⟨a, b⟩ | ⟨o, ho, a, b, d⟩
                · exact Or.inl ⟨a, fun o ho z => b o ho ((e o).mpr z)⟩
                · exact Or.inr ⟨o, ho, a, (e o).mp b, fun j hj z => d j hj ((e j).mpr z)⟩
              have prev : ∀ (ρ2 : Sto), (∀ i2 k, i2 ≠ en σ 1 i → ρ2 0 i2 k = ρ 0 i2 k) → ∀ j, j < i → ∃ r, FF (fun o => SameL τ2 (en σ 0 o) (en σ 1 j)) (cn_ σ 0) r ∧ (r = -1 → ρ2 0 (en σ 1 j) 0 = 0) ∧ ∀ o : Nat, r = o → ∀ k, k < 6 → ρ2 0 (en σ 1 j) k = τ2 0 (en σ 0 o) k := by
                intro ρ2 h2 j hj
                obtain ⟨r, p1, p2, p3⟩ := hpl j hj
                have hne : en σ 1 j ≠ en σ 1 i := fun z => by have := en_inj hP o6 (by omega) (by omega) z; omega
                exact ⟨r, p1, fun h => by rw [h2 _ _ hne]; exact p2 h, fun o ho k hk => by rw [h2 _ _ hne]; exact p3 o ho k hk⟩
              refine ⟨fun h1 => ?_, fun o ho => ?_⟩
              · have := ih (i + 1) (up3 ρ 0 (en σ 1 i) 0 0) (by omega) (fun c' i2 k h => by rw [up_k (by omega)]; exact hρ c' i2 k h) ?_ ?_ (fun j hj => ?_)
                · exact this
                · refine ⟨fun e he => ?_, ?_⟩
                  · obtain ⟨b1, b2, b3⟩ := hPρ.1 e he
                    refine ⟨?_, ?_, ?_⟩
                    · unfold bx4 at b1 ⊢
                      rw [up_nj (by omega), up_nj (by omega), up_nj (by omega), up_nj (by omega)]; exact b1
                    · by_cases q : e = en σ 1 i
                      · rw [q, up_e]; exact Or.inl rfl
                      · rw [up_ni q]; exact b2
                    · rw [up_nj (by omega)]; exact b3
                  · simp only [up_nc (show (9 : Nat) ≠ 0 by omega), up_nc (show (11 : Nat) ≠ 0 by omega)]
                    exact hPρ.2
                · intro e he h0
                  rw [up_nj (by omega), up_nj (by omega), up_nj (by omega), up_nj (by omega)]
                  by_cases q : e = en σ 1 i
                  · rw [q, up_e] at h0; omega
                  · rw [up_ni q] at h0; exact hGρ e he h0
                · rcases Nat.lt_succ_iff_lt_or_eq.mp hj with q | q
                  · exact prev _ (fun i2 k h => up_ni h) j q
                  · subst q; exact ⟨r, hr2, fun _ => up_e, fun o ho => by omega⟩
              · have hon : o < cn_ σ 0 := by
                  rcases hr2 with ⟨a, b⟩ | ⟨o', ho', a, b, d⟩
                  · omega
                  · omega
                have heo := en_lt hP z6 (show o < 24 by have := hC.2.2.1.1; unfold cn_ at hon; omega)
                have := ih (i + 1) (cpBox ρ (en σ 1 i) (en σ 0 o)) (by omega) (fun c' i2 k h => by rw [cpb_o (by omega)]; exact hρ c' i2 k h) ?_ ?_ (fun j hj => ?_)
                · rw [enρ]; exact this
                · have hb := boxp_cp (σ := ρ) hen.1 heo.1
                  refine ⟨boxp_b hb hPρ.1, ?_⟩
                  simp only [cpb_o (show (9 : Nat) ≠ 0 ∨ _ from Or.inl (by omega)), cpb_o (show (11 : Nat) ≠ 0 ∨ _ from Or.inl (by omega))]
                  exact hPρ.2
                · exact boxp_g (boxp_cp (σ := ρ) hen.1 heo.1) hGρ
                · rcases Nat.lt_succ_iff_lt_or_eq.mp hj with q | q
                  · exact prev _ (fun i2 k h => cpb_o (Or.inr h)) j q
                  · subst q
                    refine ⟨r, hr2, fun h => by omega, fun o2 ho2 k hk => ?_⟩
                    have : o2 = o := by omega
                    subst this
                    rw [cpb_k hk, hρ 0 _ k (by omega)]
        refine run hG [35] 60 ?_
        simp only [wpn_s, wpn_0, br_T, br_F, st1, st2, true_and, and_true, ↓reduceIte, if_true, if_false, List.contains_nil, List.contains_cons, Bool.or_false, Bool.or_true, Bool.true_or, Bool.false_or, Bool.false_eq_true, bit_0, bit_1, bit_b, true_or, or_true, or_false, false_or, up_e, up_nc, up_nj, ne_eq, not_false_eq_true, not_true_eq_false, inR_n, inR_m1, bi_RT, br_bi, Nat.reduceAdd, Nat.reduceLT, Nat.reduceLeDiff, Nat.reduceEqDiff, Nat.reduceBEq, Nat.zero_le, Int.reduceAdd, Int.reduceNeg, Int.reduceLE, Int.reduceLT, Int.reduceToNat, Int.reduceNatCast, Int.reduceEq, Int.reduceSub, Int.reduceMul, set_0, set_s, len_c, len_n, nc2_0, nc2_1i, nc2_1r, nc2_1j, nc2_s, rcv_e, take_c, take_z, drop_c, drop_z, rev_c, rev_n, app_c, app_n, tol_s, tol_n, Nat.le_refl, s1i_e, s2i_e, s1r_e, sir_e, siir_e, srir_e, c1_i, c1_r, s1v_e, s2v_e, ldv_0, ldv_s, ldx_0, ldx_s, ldi_0, ldi_s, ldr_0, ldr_s, fg_0_0, fg_0_1, fg_0_2, fg_0_3, fg_0_4, fg_0_5, fg_1_0, fg_1_1, fg_1_2, fg_1_3, fg_1_4, fg_1_5, fg_1_6, fg_1_7, fg_2_0, fg_2_1, fg_2_2, fg_2_3, fg_2_4, fg_2_5, fg_3_0, fg_3_1, fg_4_0, fg_4_1, fg_4_2, fg_4_3, fg_4_4, fg_4_5, fg_5_0, fg_5_1, fg_5_2, fg_5_3, fg_5_4, fg_5_5, fg_5_6, fg_6_0, fg_6_1, fg_6_2, fg_6_3, fg_7_0, fg_7_1, fg_7_2, fg_7_3, fg_7_4, fg_7_5, fg_8_0, fg_8_1, fg_8_2, fg_8_3, fg_8_4, fg_8_5, fg_8_6, fg_8_7, fg_8_8, fg_8_9, fg_8_10, fg_8_11, fg_8_12, fg_8_13, cnt_0, cnt_1, cnt_2, cnt_3, cnt_4, cnt_5, cnt_6, cnt_7, cnt_8, cnt_9, cnt_10, cnt_11, cnt_12, cnt_13, cnt_14, fk, rd, al_9, al_10, al_11, al_13, al_12_0, al_12_1, al_12_2, al_12_3, al_12_4, al_12_5, al_12_6, al_12_7, al_12_8, al_12_9, al_12_10, al_12_11, stepd_ok dX7_parse_0, sf_aload_n0, stepd_ok dX7_parse_1, sf_getfield (P := pr_X7_parse) ftX7_10, stepd_ok dX7_parse_4, stepd_ok dX7_parse_5, sf_getfield (P := pr_X7_parse) ftX7_23, stepd_ok dX7_parse_8, sf_inv (P := pr_X7_parse) ca_X7_parse_63 rfl, stepd_ok dX7_parse_11, sf_istore_n1, stepd_ok dX7_parse_12, sf_iload_n1, stepd_ok dX7_parse_13, sf_iconst, stepd_ok dX7_parse_14, jk_at (pc := 14) (off := 8) (t := 22) rfl, jo_at (pc := 14) (off := 8) (t := 22) rfl, sf_if_icmp_eq, stepd_ok dX7_parse_17, sf_bipush, stepd_ok dX7_parse_19, stepd_ok dX7_parse_20, sf_isub, stepd_ok dX7_parse_21, stepd_ok dX7_parse_22, stepd_ok dX7_parse_23, stepd_ok dX7_parse_26, stepd_ok dX7_parse_27, sf_getfield (P := pr_X7_parse) ftX7_19, stepd_ok dX7_parse_30, sf_inv (P := pr_X7_parse) ca_X7_parse_67 rfl, stepd_ok dX7_parse_33, stepd_ok dX7_parse_34, sf_istore_n2, stepd_ok dX7_parse_35, sf_iload_n2, stepd_ok dX7_parse_36, stepd_ok dX7_parse_37, stepd_ok dX7_parse_40, sf_getfield (P := pr_X7_parse) ftX7_71, stepd_ok dX7_parse_43, jk_at (pc := 43) (off := 22) (t := 65) rfl, jo_at (pc := 43) (off := 22) (t := 65) rfl, sf_if_icmp_ge, stepd_ok dX7_parse_46, stepd_ok dX7_parse_47, stepd_ok dX7_parse_48, stepd_ok dX7_parse_51, sf_getfield (P := pr_X7_parse) ftX7_74, stepd_ok dX7_parse_54, stepd_ok dX7_parse_55, sf_aaload, stepd_ok dX7_parse_56, sf_inv (P := pr_X7_parse) ca_X7_parse_78 rfl, stepd_ok dX7_parse_59, sf_iinc, stepd_ok dX7_parse_62, jk_at (pc := 62) (off := -27) (t := 35) rfl, sf_goto, stepd_ok dX7_parse_65, stepd_ok dX7_parse_66, sf_getfield (P := pr_X7_parse) ftX7_29, stepd_ok dX7_parse_69, stepd_ok dX7_parse_70, stepd_ok dX7_parse_73, sf_inv (P := pr_X7_parse) ca_X7_parse_82 rfl, stepd_ok dX7_parse_76, stepd_ok dX7_parse_77, stepd_ok dX7_parse_80, stepd_ok dX7_parse_81, stepd_ok dX7_parse_84, sf_inv (P := pr_X7_parse) ca_X7_parse_85 rfl, stepd_ok dX7_parse_87, stepd_ok dX7_parse_88, stepd_ok dX7_parse_91, stepd_ok dX7_parse_94, sf_iret1 (P := pr_X7_parse) rfl rfl, sp_X6_readInto_e, sp_X1_copySettings_e, sp_X7_giveFormerPlace_e, sp_X3_save_e, sp_X1_copyFrom_e]
        exact loop n 0 τ2 (by omega) (fun _ _ _ _ => rfl) hP2 hG2 (fun j hj => absurd hj (by omega))
      refine run hG [33] 60 ?_
      simp only [wpn_s, wpn_0, br_T, br_F, st1, st2, true_and, and_true, ↓reduceIte, if_true, if_false, List.contains_nil, List.contains_cons, Bool.or_false, Bool.or_true, Bool.true_or, Bool.false_or, Bool.false_eq_true, bit_0, bit_1, bit_b, true_or, or_true, or_false, false_or, up_e, up_nc, up_nj, ne_eq, not_false_eq_true, not_true_eq_false, inR_n, inR_m1, bi_RT, br_bi, Nat.reduceAdd, Nat.reduceLT, Nat.reduceLeDiff, Nat.reduceEqDiff, Nat.reduceBEq, Nat.zero_le, Int.reduceAdd, Int.reduceNeg, Int.reduceLE, Int.reduceLT, Int.reduceToNat, Int.reduceNatCast, Int.reduceEq, Int.reduceSub, Int.reduceMul, set_0, set_s, len_c, len_n, nc2_0, nc2_1i, nc2_1r, nc2_1j, nc2_s, rcv_e, take_c, take_z, drop_c, drop_z, rev_c, rev_n, app_c, app_n, tol_s, tol_n, Nat.le_refl, s1i_e, s2i_e, s1r_e, sir_e, siir_e, srir_e, c1_i, c1_r, s1v_e, s2v_e, ldv_0, ldv_s, ldx_0, ldx_s, ldi_0, ldi_s, ldr_0, ldr_s, fg_0_0, fg_0_1, fg_0_2, fg_0_3, fg_0_4, fg_0_5, fg_1_0, fg_1_1, fg_1_2, fg_1_3, fg_1_4, fg_1_5, fg_1_6, fg_1_7, fg_2_0, fg_2_1, fg_2_2, fg_2_3, fg_2_4, fg_2_5, fg_3_0, fg_3_1, fg_4_0, fg_4_1, fg_4_2, fg_4_3, fg_4_4, fg_4_5, fg_5_0, fg_5_1, fg_5_2, fg_5_3, fg_5_4, fg_5_5, fg_5_6, fg_6_0, fg_6_1, fg_6_2, fg_6_3, fg_7_0, fg_7_1, fg_7_2, fg_7_3, fg_7_4, fg_7_5, fg_8_0, fg_8_1, fg_8_2, fg_8_3, fg_8_4, fg_8_5, fg_8_6, fg_8_7, fg_8_8, fg_8_9, fg_8_10, fg_8_11, fg_8_12, fg_8_13, cnt_0, cnt_1, cnt_2, cnt_3, cnt_4, cnt_5, cnt_6, cnt_7, cnt_8, cnt_9, cnt_10, cnt_11, cnt_12, cnt_13, cnt_14, fk, rd, al_9, al_10, al_11, al_13, al_12_0, al_12_1, al_12_2, al_12_3, al_12_4, al_12_5, al_12_6, al_12_7, al_12_8, al_12_9, al_12_10, al_12_11, stepd_ok dX7_parse_0, sf_aload_n0, stepd_ok dX7_parse_1, sf_getfield (P := pr_X7_parse) ftX7_10, stepd_ok dX7_parse_4, stepd_ok dX7_parse_5, sf_getfield (P := pr_X7_parse) ftX7_23, stepd_ok dX7_parse_8, sf_inv (P := pr_X7_parse) ca_X7_parse_63 rfl, stepd_ok dX7_parse_11, sf_istore_n1, stepd_ok dX7_parse_12, sf_iload_n1, stepd_ok dX7_parse_13, sf_iconst, stepd_ok dX7_parse_14, jk_at (pc := 14) (off := 8) (t := 22) rfl, jo_at (pc := 14) (off := 8) (t := 22) rfl, sf_if_icmp_eq, stepd_ok dX7_parse_17, sf_bipush, stepd_ok dX7_parse_19, stepd_ok dX7_parse_20, sf_isub, stepd_ok dX7_parse_21, stepd_ok dX7_parse_22, stepd_ok dX7_parse_23, stepd_ok dX7_parse_26, stepd_ok dX7_parse_27, sf_getfield (P := pr_X7_parse) ftX7_19, stepd_ok dX7_parse_30, sf_inv (P := pr_X7_parse) ca_X7_parse_67 rfl, stepd_ok dX7_parse_33, stepd_ok dX7_parse_34, sf_istore_n2, stepd_ok dX7_parse_35, sf_iload_n2, stepd_ok dX7_parse_36, stepd_ok dX7_parse_37, stepd_ok dX7_parse_40, sf_getfield (P := pr_X7_parse) ftX7_71, stepd_ok dX7_parse_43, jk_at (pc := 43) (off := 22) (t := 65) rfl, jo_at (pc := 43) (off := 22) (t := 65) rfl, sf_if_icmp_ge, stepd_ok dX7_parse_46, stepd_ok dX7_parse_47, stepd_ok dX7_parse_48, stepd_ok dX7_parse_51, sf_getfield (P := pr_X7_parse) ftX7_74, stepd_ok dX7_parse_54, stepd_ok dX7_parse_55, sf_aaload, stepd_ok dX7_parse_56, sf_inv (P := pr_X7_parse) ca_X7_parse_78 rfl, stepd_ok dX7_parse_59, sf_iinc, stepd_ok dX7_parse_62, jk_at (pc := 62) (off := -27) (t := 35) rfl, sf_goto, stepd_ok dX7_parse_65, stepd_ok dX7_parse_66, sf_getfield (P := pr_X7_parse) ftX7_29, stepd_ok dX7_parse_69, stepd_ok dX7_parse_70, stepd_ok dX7_parse_73, sf_inv (P := pr_X7_parse) ca_X7_parse_82 rfl, stepd_ok dX7_parse_76, stepd_ok dX7_parse_77, stepd_ok dX7_parse_80, stepd_ok dX7_parse_81, stepd_ok dX7_parse_84, sf_inv (P := pr_X7_parse) ca_X7_parse_85 rfl, stepd_ok dX7_parse_87, stepd_ok dX7_parse_88, stepd_ok dX7_parse_91, stepd_ok dX7_parse_94, sf_iret1 (P := pr_X7_parse) rfl rfl, sp_X6_readInto_e, sp_X1_copySettings_e, sp_X7_giveFormerPlace_e, sp_X3_save_e, sp_X1_copyFrom_e, z6, o6, zo, o0]
      exact go2
    · have rr : inR r := by
        rw [hr]
        have a := itm_r (h := hrc σ) (full := 24 ≤ n) (kn := knw (hrc σ) n) (p := ps (hrc σ) n) (ps_r n)
        have b := hTx.1.2
        have g : itmi (hrc σ) n = itm (hrc σ) (24 ≤ n) (knw (hrc σ) n) (ps (hrc σ) n) := rfl
        unfold inR; omega
      have hne' : ¬ (r = -1) := by rw [hr]; exact hne
      have kk := hKF r τ ⟨n, n24, good, hlen, hne, hr⟩ hU
      refine run hG [] 60 ?_
      simp only [wpn_s, wpn_0, br_T, br_F, st1, st2, true_and, and_true, ↓reduceIte, if_true, if_false, List.contains_nil, List.contains_cons, Bool.or_false, Bool.or_true, Bool.true_or, Bool.false_or, Bool.false_eq_true, bit_0, bit_1, bit_b, true_or, or_true, or_false, false_or, up_e, up_nc, up_nj, ne_eq, not_false_eq_true, not_true_eq_false, inR_n, inR_m1, bi_RT, br_bi, Nat.reduceAdd, Nat.reduceLT, Nat.reduceLeDiff, Nat.reduceEqDiff, Nat.reduceBEq, Nat.zero_le, Int.reduceAdd, Int.reduceNeg, Int.reduceLE, Int.reduceLT, Int.reduceToNat, Int.reduceNatCast, Int.reduceEq, Int.reduceSub, Int.reduceMul, set_0, set_s, len_c, len_n, nc2_0, nc2_1i, nc2_1r, nc2_1j, nc2_s, rcv_e, take_c, take_z, drop_c, drop_z, rev_c, rev_n, app_c, app_n, tol_s, tol_n, Nat.le_refl, s1i_e, s2i_e, s1r_e, sir_e, siir_e, srir_e, c1_i, c1_r, s1v_e, s2v_e, ldv_0, ldv_s, ldx_0, ldx_s, ldi_0, ldi_s, ldr_0, ldr_s, fg_0_0, fg_0_1, fg_0_2, fg_0_3, fg_0_4, fg_0_5, fg_1_0, fg_1_1, fg_1_2, fg_1_3, fg_1_4, fg_1_5, fg_1_6, fg_1_7, fg_2_0, fg_2_1, fg_2_2, fg_2_3, fg_2_4, fg_2_5, fg_3_0, fg_3_1, fg_4_0, fg_4_1, fg_4_2, fg_4_3, fg_4_4, fg_4_5, fg_5_0, fg_5_1, fg_5_2, fg_5_3, fg_5_4, fg_5_5, fg_5_6, fg_6_0, fg_6_1, fg_6_2, fg_6_3, fg_7_0, fg_7_1, fg_7_2, fg_7_3, fg_7_4, fg_7_5, fg_8_0, fg_8_1, fg_8_2, fg_8_3, fg_8_4, fg_8_5, fg_8_6, fg_8_7, fg_8_8, fg_8_9, fg_8_10, fg_8_11, fg_8_12, fg_8_13, cnt_0, cnt_1, cnt_2, cnt_3, cnt_4, cnt_5, cnt_6, cnt_7, cnt_8, cnt_9, cnt_10, cnt_11, cnt_12, cnt_13, cnt_14, fk, rd, al_9, al_10, al_11, al_13, al_12_0, al_12_1, al_12_2, al_12_3, al_12_4, al_12_5, al_12_6, al_12_7, al_12_8, al_12_9, al_12_10, al_12_11, stepd_ok dX7_parse_0, sf_aload_n0, stepd_ok dX7_parse_1, sf_getfield (P := pr_X7_parse) ftX7_10, stepd_ok dX7_parse_4, stepd_ok dX7_parse_5, sf_getfield (P := pr_X7_parse) ftX7_23, stepd_ok dX7_parse_8, sf_inv (P := pr_X7_parse) ca_X7_parse_63 rfl, stepd_ok dX7_parse_11, sf_istore_n1, stepd_ok dX7_parse_12, sf_iload_n1, stepd_ok dX7_parse_13, sf_iconst, stepd_ok dX7_parse_14, jk_at (pc := 14) (off := 8) (t := 22) rfl, jo_at (pc := 14) (off := 8) (t := 22) rfl, sf_if_icmp_eq, stepd_ok dX7_parse_17, sf_bipush, stepd_ok dX7_parse_19, stepd_ok dX7_parse_20, sf_isub, stepd_ok dX7_parse_21, stepd_ok dX7_parse_22, stepd_ok dX7_parse_23, stepd_ok dX7_parse_26, stepd_ok dX7_parse_27, sf_getfield (P := pr_X7_parse) ftX7_19, stepd_ok dX7_parse_30, sf_inv (P := pr_X7_parse) ca_X7_parse_67 rfl, stepd_ok dX7_parse_33, stepd_ok dX7_parse_34, sf_istore_n2, stepd_ok dX7_parse_35, sf_iload_n2, stepd_ok dX7_parse_36, stepd_ok dX7_parse_37, stepd_ok dX7_parse_40, sf_getfield (P := pr_X7_parse) ftX7_71, stepd_ok dX7_parse_43, jk_at (pc := 43) (off := 22) (t := 65) rfl, jo_at (pc := 43) (off := 22) (t := 65) rfl, sf_if_icmp_ge, stepd_ok dX7_parse_46, stepd_ok dX7_parse_47, stepd_ok dX7_parse_48, stepd_ok dX7_parse_51, sf_getfield (P := pr_X7_parse) ftX7_74, stepd_ok dX7_parse_54, stepd_ok dX7_parse_55, sf_aaload, stepd_ok dX7_parse_56, sf_inv (P := pr_X7_parse) ca_X7_parse_78 rfl, stepd_ok dX7_parse_59, sf_iinc, stepd_ok dX7_parse_62, jk_at (pc := 62) (off := -27) (t := 35) rfl, sf_goto, stepd_ok dX7_parse_65, stepd_ok dX7_parse_66, sf_getfield (P := pr_X7_parse) ftX7_29, stepd_ok dX7_parse_69, stepd_ok dX7_parse_70, stepd_ok dX7_parse_73, sf_inv (P := pr_X7_parse) ca_X7_parse_82 rfl, stepd_ok dX7_parse_76, stepd_ok dX7_parse_77, stepd_ok dX7_parse_80, stepd_ok dX7_parse_81, stepd_ok dX7_parse_84, sf_inv (P := pr_X7_parse) ca_X7_parse_85 rfl, stepd_ok dX7_parse_87, stepd_ok dX7_parse_88, stepd_ok dX7_parse_91, stepd_ok dX7_parse_94, sf_iret1 (P := pr_X7_parse) rfl rfl, sp_X6_readInto_e, sp_X1_copySettings_e, sp_X7_giveFormerPlace_e, sp_X3_save_e, sp_X1_copyFrom_e, rr, hne']
      exact kk
  refine run hG [11] 60 ?_
  simp only [wpn_s, wpn_0, br_T, br_F, st1, st2, true_and, and_true, ↓reduceIte, if_true, if_false, List.contains_nil, List.contains_cons, Bool.or_false, Bool.or_true, Bool.true_or, Bool.false_or, Bool.false_eq_true, bit_0, bit_1, bit_b, true_or, or_true, or_false, false_or, up_e, up_nc, up_nj, ne_eq, not_false_eq_true, not_true_eq_false, inR_n, inR_m1, bi_RT, br_bi, Nat.reduceAdd, Nat.reduceLT, Nat.reduceLeDiff, Nat.reduceEqDiff, Nat.reduceBEq, Nat.zero_le, Int.reduceAdd, Int.reduceNeg, Int.reduceLE, Int.reduceLT, Int.reduceToNat, Int.reduceNatCast, Int.reduceEq, Int.reduceSub, Int.reduceMul, set_0, set_s, len_c, len_n, nc2_0, nc2_1i, nc2_1r, nc2_1j, nc2_s, rcv_e, take_c, take_z, drop_c, drop_z, rev_c, rev_n, app_c, app_n, tol_s, tol_n, Nat.le_refl, s1i_e, s2i_e, s1r_e, sir_e, siir_e, srir_e, c1_i, c1_r, s1v_e, s2v_e, ldv_0, ldv_s, ldx_0, ldx_s, ldi_0, ldi_s, ldr_0, ldr_s, fg_0_0, fg_0_1, fg_0_2, fg_0_3, fg_0_4, fg_0_5, fg_1_0, fg_1_1, fg_1_2, fg_1_3, fg_1_4, fg_1_5, fg_1_6, fg_1_7, fg_2_0, fg_2_1, fg_2_2, fg_2_3, fg_2_4, fg_2_5, fg_3_0, fg_3_1, fg_4_0, fg_4_1, fg_4_2, fg_4_3, fg_4_4, fg_4_5, fg_5_0, fg_5_1, fg_5_2, fg_5_3, fg_5_4, fg_5_5, fg_5_6, fg_6_0, fg_6_1, fg_6_2, fg_6_3, fg_7_0, fg_7_1, fg_7_2, fg_7_3, fg_7_4, fg_7_5, fg_8_0, fg_8_1, fg_8_2, fg_8_3, fg_8_4, fg_8_5, fg_8_6, fg_8_7, fg_8_8, fg_8_9, fg_8_10, fg_8_11, fg_8_12, fg_8_13, cnt_0, cnt_1, cnt_2, cnt_3, cnt_4, cnt_5, cnt_6, cnt_7, cnt_8, cnt_9, cnt_10, cnt_11, cnt_12, cnt_13, cnt_14, fk, rd, al_9, al_10, al_11, al_13, al_12_0, al_12_1, al_12_2, al_12_3, al_12_4, al_12_5, al_12_6, al_12_7, al_12_8, al_12_9, al_12_10, al_12_11, stepd_ok dX7_parse_0, sf_aload_n0, stepd_ok dX7_parse_1, sf_getfield (P := pr_X7_parse) ftX7_10, stepd_ok dX7_parse_4, stepd_ok dX7_parse_5, sf_getfield (P := pr_X7_parse) ftX7_23, stepd_ok dX7_parse_8, sf_inv (P := pr_X7_parse) ca_X7_parse_63 rfl, stepd_ok dX7_parse_11, sf_istore_n1, stepd_ok dX7_parse_12, sf_iload_n1, stepd_ok dX7_parse_13, sf_iconst, stepd_ok dX7_parse_14, jk_at (pc := 14) (off := 8) (t := 22) rfl, jo_at (pc := 14) (off := 8) (t := 22) rfl, sf_if_icmp_eq, stepd_ok dX7_parse_17, sf_bipush, stepd_ok dX7_parse_19, stepd_ok dX7_parse_20, sf_isub, stepd_ok dX7_parse_21, stepd_ok dX7_parse_22, stepd_ok dX7_parse_23, stepd_ok dX7_parse_26, stepd_ok dX7_parse_27, sf_getfield (P := pr_X7_parse) ftX7_19, stepd_ok dX7_parse_30, sf_inv (P := pr_X7_parse) ca_X7_parse_67 rfl, stepd_ok dX7_parse_33, stepd_ok dX7_parse_34, sf_istore_n2, stepd_ok dX7_parse_35, sf_iload_n2, stepd_ok dX7_parse_36, stepd_ok dX7_parse_37, stepd_ok dX7_parse_40, sf_getfield (P := pr_X7_parse) ftX7_71, stepd_ok dX7_parse_43, jk_at (pc := 43) (off := 22) (t := 65) rfl, jo_at (pc := 43) (off := 22) (t := 65) rfl, sf_if_icmp_ge, stepd_ok dX7_parse_46, stepd_ok dX7_parse_47, stepd_ok dX7_parse_48, stepd_ok dX7_parse_51, sf_getfield (P := pr_X7_parse) ftX7_74, stepd_ok dX7_parse_54, stepd_ok dX7_parse_55, sf_aaload, stepd_ok dX7_parse_56, sf_inv (P := pr_X7_parse) ca_X7_parse_78 rfl, stepd_ok dX7_parse_59, sf_iinc, stepd_ok dX7_parse_62, jk_at (pc := 62) (off := -27) (t := 35) rfl, sf_goto, stepd_ok dX7_parse_65, stepd_ok dX7_parse_66, sf_getfield (P := pr_X7_parse) ftX7_29, stepd_ok dX7_parse_69, stepd_ok dX7_parse_70, stepd_ok dX7_parse_73, sf_inv (P := pr_X7_parse) ca_X7_parse_82 rfl, stepd_ok dX7_parse_76, stepd_ok dX7_parse_77, stepd_ok dX7_parse_80, stepd_ok dX7_parse_81, stepd_ok dX7_parse_84, sf_inv (P := pr_X7_parse) ca_X7_parse_85 rfl, stepd_ok dX7_parse_87, stepd_ok dX7_parse_88, stepd_ok dX7_parse_91, stepd_ok dX7_parse_94, sf_iret1 (P := pr_X7_parse) rfl rfl, sp_X6_readInto_e, sp_X1_copySettings_e, sp_X7_giveFormerPlace_e, sp_X3_save_e, sp_X1_copyFrom_e, Nat.zero_lt_one, z6, o6, hP, hTx]
  exact ⟨hbx, go⟩
theorem cn_X7_parse (l : Launch) (Γ : Ga) : Cn l Γ yX7_parse (wsy yX7_parse cX7_parse 3 (some .int)) rm_X7_parse 0 sp_X7_parse := Cn_of (P := pr_X7_parse) (own := RX7) (by decide) rfl rfl (by decide) rfl ⟨rfl, rfl⟩ ftX7_ok (List.forall_mem_cons.mpr ⟨callV_of (rc := 6) (cn_X6_readInto l Γ) rfl rfl (List.forall_mem_cons.mpr ⟨wl_X7_63, fun _ h => wm_X6_readInto h⟩) ⟨rfl, by decide, by decide, by decide +kernel⟩ ⟨by decide, by decide⟩, List.forall_mem_cons.mpr ⟨callV_of (rc := 1) (cn_X1_copySettings l Γ) rfl rfl (List.forall_mem_cons.mpr ⟨wl_X7_67, fun _ h => wm_X1_copySettings h⟩) ⟨rfl, by decide, by decide, by decide +kernel⟩ ⟨by decide, by decide⟩, List.forall_mem_cons.mpr ⟨callV_of (rc := 7) (cn_X7_giveFormerPlace l Γ) rfl rfl (List.forall_mem_cons.mpr ⟨wl_X7_78, fun _ h => wm_X7_giveFormerPlace h⟩) ⟨rfl, by decide, by decide, by decide +kernel⟩ ⟨by decide, by decide⟩, List.forall_mem_cons.mpr ⟨callV_of (rc := 3) (cn_X3_save l Γ) rfl rfl (List.forall_mem_cons.mpr ⟨wl_X7_82, fun _ h => wm_X3_save h⟩) ⟨rfl, by decide, by decide, by decide +kernel⟩ ⟨by decide, by decide⟩, List.forall_mem_cons.mpr ⟨callV_of (rc := 1) (cn_X1_copyFrom l Γ) rfl rfl (List.forall_mem_cons.mpr ⟨wl_X7_85, fun _ h => wm_X1_copyFrom h⟩) ⟨rfl, by decide, by decide, by decide +kernel⟩ ⟨by decide, by decide⟩, fun _ h => (List.not_mem_nil h).elim⟩⟩⟩⟩⟩) (fun _ h => (List.not_mem_nil h).elim) (fun _ _ _ _ _ _ _ _ _ _ q hq => (List.not_mem_nil hq).elim) sem_X7_parse
