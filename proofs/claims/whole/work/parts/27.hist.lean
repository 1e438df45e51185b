def sp_X3_dropOldest : Spec := fun a σ K KX => ∃ (i : Nat), a = [vr 3 i] ∧ (i < 1 ∧ Phy σ ∧ ∀ σ', σ' 3 0 1 = 3 → (∀ j : Nat, j < 3 → σ' 11 0 j = σ 11 0 (j + 1)) → σ' 11 0 3 = σ 11 0 0 → (∀ c i k : Nat, (c ≠ 3 ∨ i ≠ 0 ∨ k ≠ 1) → (c ≠ 11 ∨ i ≠ 0) → σ' c i k = σ c i k) → K none σ')
theorem sp_X3_dropOldest_e {i : Nat} {σ : Sto} {K : Option AV → Sto → Prop} {KX : Nat → Sto → Prop} : sp_X3_dropOldest [vr 3 i] σ K KX = (i < 1 ∧ Phy σ ∧ ∀ σ', σ' 3 0 1 = 3 → (∀ j : Nat, j < 3 → σ' 11 0 j = σ 11 0 (j + 1)) → σ' 11 0 3 = σ 11 0 0 → (∀ c i k : Nat, (c ≠ 3 ∨ i ≠ 0 ∨ k ≠ 1) → (c ≠ 11 ∨ i ≠ 0) → σ' c i k = σ c i k) → K none σ') := propext ⟨fun h => by obtain ⟨_, h, hb⟩ := h; cases h; exact hb, fun hb => ⟨_, rfl, hb⟩⟩
def pr_X3_dropOldest : Par := (ftX3, [], [], [], 0, 0, none)
def rm_X3_dropOldest : Room := { frames := 0, cells := 0, slots := 0, locals := 0 }
set_option maxRecDepth 100000 in
set_option maxHeartbeats 4000000 in
theorem sem_X3_dropOldest : Sem pr_X3_dropOldest cX3_dropOldest 3 sp_X3_dropOldest := by
  rintro a σ K KX ⟨i, rfl, hi, hP, hK⟩
  refine ⟨by simp [vr, vi, nj], Nat.le_of_ble_eq_true rfl, fun G hG => ?_⟩
  have hi0 : i = 0 := by omega
  subst hi0
  obtain ⟨-, -, -, hs, -⟩ := hP
  have s0 := hs 0 (by omega)
  have s1 := hs 1 (by omega)
  have s2 := hs 2 (by omega)
  have s3 := hs 3 (by omega)
  have t0 : (σ 11 0 0).toNat < 6 := by omega
  have t1 : (σ 11 0 1).toNat < 6 := by omega
  have t2 : (σ 11 0 2).toNat < 6 := by omega
  have t3 : (σ 11 0 3).toNat < 6 := by omega
  have u0 : ((σ 11 0 0).toNat : Int) = σ 11 0 0 := by omega
  have u1 : ((σ 11 0 1).toNat : Int) = σ 11 0 1 := by omega
  have u2 : ((σ 11 0 2).toNat : Int) = σ 11 0 2 := by omega
  have u3 : ((σ 11 0 3).toNat : Int) = σ 11 0 3 := by omega
  show G 0 [vr 3 0, vj, vj] [] σ 0
  refine run hG [] 100 ?_
  simp only [wpn_s, wpn_0, br_T, br_F, st1, st2, true_and, and_true, ↓reduceIte, if_true, if_false, List.contains_nil, List.contains_cons, Bool.or_false, Bool.or_true, Bool.true_or, Bool.false_or, Bool.false_eq_true, bit_0, bit_1, bit_b, true_or, or_true, or_false, false_or, up_e, up_nc, up_nj, ne_eq, not_false_eq_true, not_true_eq_false, inR_n, inR_m1, bi_RT, br_bi, Nat.reduceAdd, Nat.reduceLT, Nat.reduceLeDiff, Nat.reduceEqDiff, Nat.reduceBEq, Nat.zero_le, Int.reduceAdd, Int.reduceNeg, Int.reduceLE, Int.reduceLT, Int.reduceToNat, Int.reduceNatCast, Int.reduceEq, Int.reduceSub, Int.reduceMul, set_0, set_s, len_c, len_n, nc2_0, nc2_1i, nc2_1r, nc2_1j, nc2_s, s1i_e, s2i_e, s1r_e, sir_e, siir_e, srir_e, c1_i, c1_r, s1v_e, s2v_e, ldv_0, ldv_s, ldx_0, ldx_s, ldi_0, ldi_s, ldr_0, ldr_s, fg_0_0, fg_0_1, fg_0_2, fg_0_3, fg_0_4, fg_0_5, fg_1_0, fg_1_1, fg_1_2, fg_1_3, fg_1_4, fg_1_5, fg_1_6, fg_1_7, fg_2_0, fg_2_1, fg_2_2, fg_2_3, fg_2_4, fg_2_5, fg_3_0, fg_3_1, fg_4_0, fg_4_1, fg_4_2, fg_4_3, fg_4_4, fg_4_5, fg_5_0, fg_5_1, fg_5_2, fg_5_3, fg_5_4, fg_5_5, fg_5_6, fg_6_0, fg_6_1, fg_6_2, fg_6_3, fg_7_0, fg_7_1, fg_7_2, fg_7_3, fg_7_4, fg_7_5, fg_8_0, fg_8_1, fg_8_2, fg_8_3, fg_8_4, fg_8_5, fg_8_6, fg_8_7, fg_8_8, fg_8_9, fg_8_10, fg_8_11, fg_8_12, fg_8_13, cnt_0, cnt_1, cnt_2, cnt_3, cnt_4, cnt_5, cnt_6, cnt_7, cnt_8, cnt_9, cnt_10, cnt_11, cnt_12, cnt_13, cnt_14, fk, rd, al_9, al_10, al_11, al_13, al_12_0, al_12_1, al_12_2, al_12_3, al_12_4, al_12_5, al_12_6, al_12_7, al_12_8, al_12_9, al_12_10, al_12_11, stepd_ok dX3_dropOldest_0, sf_aload_n0, stepd_ok dX3_dropOldest_1, sf_getfield (P := pr_X3_dropOldest) ftX3_11, stepd_ok dX3_dropOldest_4, sf_iconst, stepd_ok dX3_dropOldest_5, sf_aaload, stepd_ok dX3_dropOldest_6, sf_astore_n1, stepd_ok dX3_dropOldest_7, stepd_ok dX3_dropOldest_8, sf_istore_n2, stepd_ok dX3_dropOldest_9, sf_iload_n2, stepd_ok dX3_dropOldest_10, stepd_ok dX3_dropOldest_11, jk_at (pc := 11) (off := 23) (t := 34) rfl, jo_at (pc := 11) (off := 23) (t := 34) rfl, sf_if_icmp_ge, stepd_ok dX3_dropOldest_14, stepd_ok dX3_dropOldest_15, stepd_ok dX3_dropOldest_18, stepd_ok dX3_dropOldest_19, stepd_ok dX3_dropOldest_20, sf_isub, stepd_ok dX3_dropOldest_21, stepd_ok dX3_dropOldest_22, stepd_ok dX3_dropOldest_25, stepd_ok dX3_dropOldest_26, stepd_ok dX3_dropOldest_27, sf_aastore, stepd_ok dX3_dropOldest_28, sf_iinc, stepd_ok dX3_dropOldest_31, jk_at (pc := 31) (off := -22) (t := 9) rfl, sf_goto, stepd_ok dX3_dropOldest_34, stepd_ok dX3_dropOldest_35, stepd_ok dX3_dropOldest_38, stepd_ok dX3_dropOldest_39, sf_aload_n1, stepd_ok dX3_dropOldest_40, stepd_ok dX3_dropOldest_41, stepd_ok dX3_dropOldest_42, stepd_ok dX3_dropOldest_43, sf_putfield (P := pr_X3_dropOldest) ftX3_18, stepd_ok dX3_dropOldest_46, sf_vret (P := pr_X3_dropOldest) rfl rfl, t0, t1, t2, t3, u0, u1, u2, u3, Nat.lt_add_one, Nat.zero_lt_one, Nat.reduceSub]
  refine hK _ (by simp [up3]) (fun j hj => ?_) (by simp [up3]) (fun c i k h1 h2 => ?_)
  · rcases (show j = 0 ∨ j = 1 ∨ j = 2 by omega) with h | h | h <;> subst h <;> simp [up3]
  · rw [up_k (by omega), up_k (by omega), up_k (by omega), up_k (by omega), up_k (by omega)]
theorem cn_X3_dropOldest (l : Launch) (Γ : Ga) : Cn l Γ yX3_dropOldest (wsy yX3_dropOldest cX3_dropOldest 3 none) rm_X3_dropOldest 0 sp_X3_dropOldest := Cn_of (P := pr_X3_dropOldest) (own := RX3) (by decide) rfl rfl (by decide) rfl ⟨rfl, rfl⟩ ftX3_ok (fun _ h => (List.not_mem_nil h).elim) (fun _ h => (List.not_mem_nil h).elim) (fun _ _ _ _ _ _ _ _ _ _ q hq => (List.not_mem_nil hq).elim) sem_X3_dropOldest
/-- what saving the cloud c does -/
def SavP (σ σ' : Sto) (c : Nat) : Prop := (σ' 3 0 1 = if σ 3 0 1 < 4 then σ 3 0 1 + 1 else 4) ∧ (∀ j : Nat, j < 4 → σ' 11 0 j = if σ 3 0 1 < 4 then σ 11 0 j else if j < 3 then σ 11 0 (j + 1) else σ 11 0 0) ∧ BoxP σ σ' ∧
  ∃ s : Nat, 2 ≤ s ∧ s < 6 ∧ (s : Int) = σ' 11 0 (σ' 3 0 1 - 1).toNat ∧ (∀ k : Nat, 1 ≤ k → k ≤ 7 → σ' 1 s k = σ 1 c k) ∧ (∀ i, i < cn_ σ c → EntEq σ σ' (en σ s i) (en σ c i)) ∧ ∀ c' i k : Nat, (c' ≠ 3 ∨ i ≠ 0 ∨ k ≠ 1) → (c' ≠ 11 ∨ i ≠ 0) → (c' ≠ 1 ∨ i ≠ s) → ((c' ≠ 2 ∧ c' ≠ 10 ∧ c' ≠ 0) ∨ i < 24 * s ∨ 24 * s + 24 ≤ i) → σ' c' i k = σ c' i k
def sp_X3_save : Spec := fun a σ K KX => ∃ (i : Nat) (c : Nat), a = [vr 3 i, vr 1 c] ∧ (i < 1 ∧ c < 2 ∧ Phy σ ∧ ClOK σ c ∧ 0 ≤ σ 3 0 1 ∧ σ 3 0 1 ≤ 4 ∧ ∀ σ', SavP σ σ' c → K none σ')
theorem sp_X3_save_e {i : Nat} {c : Nat} {σ : Sto} {K : Option AV → Sto → Prop} {KX : Nat → Sto → Prop} : sp_X3_save [vr 3 i, vr 1 c] σ K KX = (i < 1 ∧ c < 2 ∧ Phy σ ∧ ClOK σ c ∧ 0 ≤ σ 3 0 1 ∧ σ 3 0 1 ≤ 4 ∧ ∀ σ', SavP σ σ' c → K none σ') := propext ⟨fun h => by obtain ⟨_, _, h, hb⟩ := h; cases h; exact hb, fun hb => ⟨_, _, rfl, hb⟩⟩
def pr_X3_save : Par := (ftX3, [(22, (1, 0, 3 + 1, sp_X3_dropOldest)), (25, (2, 0, 1 + 1, sp_X1_copyFrom))], [], [], 0, 0, none)
def rm_X3_save : Room := { frames := 3, cells := 0, slots := 0, locals := 65 }
theorem ca_X3_save_22 : List.lookup 22 pr_X3_save.2.1 = some (1, 0, 3 + 1, sp_X3_dropOldest) := rfl
theorem ca_X3_save_25 : List.lookup 25 pr_X3_save.2.1 = some (2, 0, 1 + 1, sp_X1_copyFrom) := rfl
set_option maxRecDepth 100000 in
set_option maxHeartbeats 4000000 in
theorem sem_X3_save : Sem pr_X3_save cX3_save 2 sp_X3_save := by
  rintro a σ K KX ⟨i, c, rfl, hi, hc, hP, hC, h0, h4, hK⟩
  refine ⟨by simp [vr, vi, nj], Nat.le_of_ble_eq_true rfl, fun G hG => ?_⟩
  have hi0 : i = 0 := by omega
  subst hi0
  have hc6 : c < 6 := by omega
  have rn : inR (σ 3 0 1) := by unfold inR; omega
  show G 0 [vr 3 0, vr 1 c] [] σ 0
  have fin : ∀ τ : Sto, τ 3 0 1 < 4 → 0 ≤ τ 3 0 1 → (∀ j : Nat, j < 4 → τ 11 0 j = if σ 3 0 1 < 4 then σ 11 0 j else if j < 3 then σ 11 0 (j + 1) else σ 11 0 0) → (τ 3 0 1 + 1 = if σ 3 0 1 < 4 then σ 3 0 1 + 1 else 4) → (∀ c i k : Nat, (c ≠ 3 ∨ i ≠ 0 ∨ k ≠ 1) → (c ≠ 11 ∨ i ≠ 0) → τ c i k = σ c i k) → G 12 [vr 3 0, vr 1 c] [] τ 0 := by
    intro τ t4 t0 hs hn hf
    have f9 : ∀ c' k, τ 9 c' k = σ 9 c' k := fun c' k => hf 9 c' k (Or.inl (by omega)) (Or.inl (by omega))
    have f1 : ∀ c' k, τ 1 c' k = σ 1 c' k := fun c' k => hf 1 c' k (Or.inl (by omega)) (Or.inl (by omega))
    have f2 : ∀ c' k, τ 2 c' k = σ 2 c' k := fun c' k => hf 2 c' k (Or.inl (by omega)) (Or.inl (by omega))
    have f0 : ∀ c' k, τ 0 c' k = σ 0 c' k := fun c' k => hf 0 c' k (Or.inl (by omega)) (Or.inl (by omega))
    have f10 : ∀ c' k, τ 10 c' k = σ 10 c' k := fun c' k => hf 10 c' k (Or.inl (by omega)) (Or.inl (by omega))
    have hsv : ∀ j : Nat, j < 4 → 2 ≤ τ 11 0 j ∧ τ 11 0 j < 6 := by
      intro j hj
      rw [hs j hj]
      have a0 := hP.2.2.2.1 0 (by omega)
      have aj := hP.2.2.2.1 j hj
      split
      · exact aj
      · split
        · exact hP.2.2.2.1 (j + 1) (by omega)
        · exact a0
    have hPτ : Phy τ := by
      refine ⟨fun e he => ?_, fun c hc j hj => by rw [f9]; exact hP.2.1 c hc j hj, fun c hc j hj j' hj' h => hP.2.2.1 c hc j hj j' hj' (by rw [← f9, ← f9]; exact h), hsv, fun j hj j' hj' h => ?_⟩
      · unfold bx4; simp only [f0]; exact hP.1 e he
      · rw [hs j hj, hs j' hj'] at h
        have inj := hP.2.2.2.2
        by_cases hlt : σ 3 0 1 < 4
        · rw [if_pos hlt, if_pos hlt] at h; exact inj j hj j' hj' h
        · rw [if_neg hlt, if_neg hlt] at h
          by_cases q1 : j < 3 <;> by_cases q2 : j' < 3
          · rw [if_pos q1, if_pos q2] at h; have := inj _ (by omega) _ (by omega) h; omega
          · rw [if_pos q1, if_neg q2] at h; have := inj _ (by omega) _ (by omega) h; omega
          · rw [if_neg q1, if_pos q2] at h; have := inj _ (by omega) _ (by omega) h; omega
          · omega
    have hCτ : ClOK τ c := by
      unfold ClOK cn_ en EntOK
      simp only [f1, f9, f2, f0, f10]
      exact hC
    obtain ⟨s, hs6⟩ : ∃ s : Nat, (τ 11 0 (τ 3 0 1).toNat).toNat = s := ⟨_, rfl⟩
    have hsr := hsv (τ 3 0 1).toNat (by omega)
    have s6 : s < 6 := by omega
    have s2 : 2 ≤ s := by omega
    have hsc : s ≠ c := by omega
    refine run hG [] 60 ?_
    simp only [wpn_s, wpn_0, br_T, br_F, st1, st2, true_and, and_true, ↓reduceIte, if_true, if_false, List.contains_nil, List.contains_cons, Bool.or_false, Bool.or_true, Bool.true_or, Bool.false_or, Bool.false_eq_true, bit_0, bit_1, bit_b, true_or, or_true, or_false, false_or, up_e, up_nc, up_nj, ne_eq, not_false_eq_true, not_true_eq_false, inR_n, inR_m1, bi_RT, br_bi, Nat.reduceAdd, Nat.reduceLT, Nat.reduceLeDiff, Nat.reduceEqDiff, Nat.reduceBEq, Nat.zero_le, Int.reduceAdd, Int.reduceNeg, Int.reduceLE, Int.reduceLT, Int.reduceToNat, Int.reduceNatCast, Int.reduceEq, Int.reduceSub, Int.reduceMul, rcv_e, take_c, take_z, drop_c, drop_z, rev_c, rev_n, app_c, app_n, tol_s, tol_n, len_c, len_n, Nat.le_refl, s1i_e, s2i_e, s1r_e, sir_e, siir_e, srir_e, c1_i, c1_r, s1v_e, s2v_e, ldv_0, ldv_s, ldx_0, ldx_s, ldi_0, ldi_s, ldr_0, ldr_s, fg_0_0, fg_0_1, fg_0_2, fg_0_3, fg_0_4, fg_0_5, fg_1_0, fg_1_1, fg_1_2, fg_1_3, fg_1_4, fg_1_5, fg_1_6, fg_1_7, fg_2_0, fg_2_1, fg_2_2, fg_2_3, fg_2_4, fg_2_5, fg_3_0, fg_3_1, fg_4_0, fg_4_1, fg_4_2, fg_4_3, fg_4_4, fg_4_5, fg_5_0, fg_5_1, fg_5_2, fg_5_3, fg_5_4, fg_5_5, fg_5_6, fg_6_0, fg_6_1, fg_6_2, fg_6_3, fg_7_0, fg_7_1, fg_7_2, fg_7_3, fg_7_4, fg_7_5, fg_8_0, fg_8_1, fg_8_2, fg_8_3, fg_8_4, fg_8_5, fg_8_6, fg_8_7, fg_8_8, fg_8_9, fg_8_10, fg_8_11, fg_8_12, fg_8_13, cnt_0, cnt_1, cnt_2, cnt_3, cnt_4, cnt_5, cnt_6, cnt_7, cnt_8, cnt_9, cnt_10, cnt_11, cnt_12, cnt_13, cnt_14, fk, rd, al_9, al_10, al_11, al_13, al_12_0, al_12_1, al_12_2, al_12_3, al_12_4, al_12_5, al_12_6, al_12_7, al_12_8, al_12_9, al_12_10, al_12_11, stepd_ok dX3_save_0, sf_aload_n0, stepd_ok dX3_save_1, sf_getfield (P := pr_X3_save) ftX3_18, stepd_ok dX3_save_4, sf_iconst, stepd_ok dX3_save_5, jk_at (pc := 5) (off := 7) (t := 12) rfl, jo_at (pc := 5) (off := 7) (t := 12) rfl, sf_if_icmp_lt, stepd_ok dX3_save_8, stepd_ok dX3_save_9, sf_inv (P := pr_X3_save) ca_X3_save_22 rfl, stepd_ok dX3_save_12, stepd_ok dX3_save_13, sf_getfield (P := pr_X3_save) ftX3_11, stepd_ok dX3_save_16, stepd_ok dX3_save_17, stepd_ok dX3_save_20, sf_aaload, stepd_ok dX3_save_21, sf_aload_n1, stepd_ok dX3_save_22, sf_inv (P := pr_X3_save) ca_X3_save_25 rfl, stepd_ok dX3_save_25, stepd_ok dX3_save_26, sf_dup, stepd_ok dX3_save_27, stepd_ok dX3_save_30, stepd_ok dX3_save_31, sf_iadd, stepd_ok dX3_save_32, sf_putfield (P := pr_X3_save) ftX3_18, stepd_ok dX3_save_35, sf_vret (P := pr_X3_save) rfl rfl, sp_X3_dropOldest_e, sp_X1_copyFrom_e, t4, t0, hs6, hc6, s6, hsc, hPτ, hCτ]
    intro τ' hcp
    obtain ⟨p1, p2, p3, p4⟩ := hcp
    have g3 : τ' 3 0 1 = τ 3 0 1 := p3 3 0 1 (by omega) (by omega)
    have g11 : ∀ j, τ' 11 0 j = τ 11 0 j := fun j => p3 11 0 j (by omega) (by omega)
    have e31 : up3 τ' 3 0 1 (τ' 3 0 1 + 1) 3 0 1 = τ 3 0 1 + 1 := by rw [up_e, g3]
    refine hK _ ⟨by rw [e31]; exact hn, fun j hj => ?_, fun e he => ?_, s, s2, s6, ?_, fun k k1 k7 => ?_, fun i hi => ?_, fun c' i k q1 q2 q3 q4 => ?_⟩
    · rw [up_nc (by omega), g11]; exact hs j hj
    · obtain ⟨o, o1, o2, o3⟩ := p4 e he
      exact ⟨o, o1, o2, fun k hk => by rw [up_nc (by omega), o3 k hk, f0]⟩
    · rw [e31, up_nc (by omega), g11, show (τ 3 0 1 + 1 - 1).toNat = (τ 3 0 1).toNat by omega]; omega
    · rw [up_nc (by omega), p1 k k1 k7, f1]
    · have hi' : i < cn_ τ c := by unfold cn_; rw [f1]; exact hi
      have e1 : en τ s i = en σ s i := by unfold en; rw [f9]
      have e2 : en τ c i = en σ c i := by unfold en; rw [f9]
      obtain ⟨u1, u2, u3⟩ := p2 i hi'
      rw [e1, e2] at u1 u2 u3
      exact ⟨fun k k1 k2 => by rw [up_nc (by omega), u1 k k1 k2, f2], fun k hk => by rw [up_nc (by omega), u2 k (by rw [f2]; exact hk), f10], fun k hk => by rw [up_nc (by omega), u3 k hk, f0]⟩
    · rw [up_k (by omega), p3 c' i k q3 q4]; exact hf c' i k q1 q2
  refine run hG [12] 60 ?_
  simp only [wpn_s, wpn_0, br_T, br_F, st1, st2, true_and, and_true, ↓reduceIte, if_true, if_false, List.contains_nil, List.contains_cons, Bool.or_false, Bool.or_true, Bool.true_or, Bool.false_or, Bool.false_eq_true, bit_0, bit_1, bit_b, true_or, or_true, or_false, false_or, up_e, up_nc, up_nj, ne_eq, not_false_eq_true, not_true_eq_false, inR_n, inR_m1, bi_RT, br_bi, Nat.reduceAdd, Nat.reduceLT, Nat.reduceLeDiff, Nat.reduceEqDiff, Nat.reduceBEq, Nat.zero_le, Int.reduceAdd, Int.reduceNeg, Int.reduceLE, Int.reduceLT, Int.reduceToNat, Int.reduceNatCast, Int.reduceEq, Int.reduceSub, Int.reduceMul, rcv_e, take_c, take_z, drop_c, drop_z, rev_c, rev_n, app_c, app_n, tol_s, tol_n, len_c, len_n, Nat.le_refl, s1i_e, s2i_e, s1r_e, sir_e, siir_e, srir_e, c1_i, c1_r, s1v_e, s2v_e, ldv_0, ldv_s, ldx_0, ldx_s, ldi_0, ldi_s, ldr_0, ldr_s, fg_0_0, fg_0_1, fg_0_2, fg_0_3, fg_0_4, fg_0_5, fg_1_0, fg_1_1, fg_1_2, fg_1_3, fg_1_4, fg_1_5, fg_1_6, fg_1_7, fg_2_0, fg_2_1, fg_2_2, fg_2_3, fg_2_4, fg_2_5, fg_3_0, fg_3_1, fg_4_0, fg_4_1, fg_4_2, fg_4_3, fg_4_4, fg_4_5, fg_5_0, fg_5_1, fg_5_2, fg_5_3, fg_5_4, fg_5_5, fg_5_6, fg_6_0, fg_6_1, fg_6_2, fg_6_3, fg_7_0, fg_7_1, fg_7_2, fg_7_3, fg_7_4, fg_7_5, fg_8_0, fg_8_1, fg_8_2, fg_8_3, fg_8_4, fg_8_5, fg_8_6, fg_8_7, fg_8_8, fg_8_9, fg_8_10, fg_8_11, fg_8_12, fg_8_13, cnt_0, cnt_1, cnt_2, cnt_3, cnt_4, cnt_5, cnt_6, cnt_7, cnt_8, cnt_9, cnt_10, cnt_11, cnt_12, cnt_13, cnt_14, fk, rd, al_9, al_10, al_11, al_13, al_12_0, al_12_1, al_12_2, al_12_3, al_12_4, al_12_5, al_12_6, al_12_7, al_12_8, al_12_9, al_12_10, al_12_11, stepd_ok dX3_save_0, sf_aload_n0, stepd_ok dX3_save_1, sf_getfield (P := pr_X3_save) ftX3_18, stepd_ok dX3_save_4, sf_iconst, stepd_ok dX3_save_5, jk_at (pc := 5) (off := 7) (t := 12) rfl, jo_at (pc := 5) (off := 7) (t := 12) rfl, sf_if_icmp_lt, stepd_ok dX3_save_8, stepd_ok dX3_save_9, sf_inv (P := pr_X3_save) ca_X3_save_22 rfl, stepd_ok dX3_save_12, stepd_ok dX3_save_13, sf_getfield (P := pr_X3_save) ftX3_11, stepd_ok dX3_save_16, stepd_ok dX3_save_17, stepd_ok dX3_save_20, sf_aaload, stepd_ok dX3_save_21, sf_aload_n1, stepd_ok dX3_save_22, sf_inv (P := pr_X3_save) ca_X3_save_25 rfl, stepd_ok dX3_save_25, stepd_ok dX3_save_26, sf_dup, stepd_ok dX3_save_27, stepd_ok dX3_save_30, stepd_ok dX3_save_31, sf_iadd, stepd_ok dX3_save_32, sf_putfield (P := pr_X3_save) ftX3_18, stepd_ok dX3_save_35, sf_vret (P := pr_X3_save) rfl rfl, sp_X3_dropOldest_e, sp_X1_copyFrom_e, hc6, rn, hP]
  refine ⟨fun hlt => fin σ hlt h0 (fun j hj => by rw [if_pos hlt]) (by rw [if_pos hlt]) (fun _ _ _ _ _ => rfl), fun hge τ h1 h2 h3 h5 => fin τ (by omega) (by omega) (fun j hj => ?_) (by rw [if_neg hge]; omega) h5⟩
  rw [if_neg hge]
  by_cases hj3 : j < 3
  · rw [if_pos hj3]; exact h2 j hj3
  · rw [if_neg hj3, show j = 3 by omega]; exact h3
theorem cn_X3_save (l : Launch) (Γ : Ga) : Cn l Γ yX3_save (wsy yX3_save cX3_save 2 none) rm_X3_save 0 sp_X3_save := Cn_of (P := pr_X3_save) (own := RX3) (by decide) rfl rfl (by decide) rfl ⟨rfl, rfl⟩ ftX3_ok (List.forall_mem_cons.mpr ⟨callV_of (rc := 3) (cn_X3_dropOldest l Γ) rfl rfl (List.forall_mem_cons.mpr ⟨wl_X3_22, fun _ h => wm_X3_dropOldest h⟩) ⟨rfl, by decide, by decide, by decide +kernel⟩ ⟨by decide, by decide⟩, List.forall_mem_cons.mpr ⟨callV_of (rc := 1) (cn_X1_copyFrom l Γ) rfl rfl (List.forall_mem_cons.mpr ⟨wl_X3_25, fun _ h => wm_X1_copyFrom h⟩) ⟨rfl, by decide, by decide, by decide +kernel⟩ ⟨by decide, by decide⟩, fun _ h => (List.not_mem_nil h).elim⟩⟩) (fun _ h => (List.not_mem_nil h).elim) (fun _ _ _ _ _ _ _ _ _ _ q hq => (List.not_mem_nil hq).elim) sem_X3_save
def sp_X3_restoreInto : Spec := fun a σ K KX => ∃ (i : Nat) (c : Nat), a = [vr 3 i, vr 1 c] ∧ (i < 1 ∧ c < 2 ∧ Phy σ ∧ 0 < σ 3 0 1 ∧ σ 3 0 1 ≤ 4 ∧ ClOK σ (σ 11 0 (σ 3 0 1 - 1).toNat).toNat ∧ ∀ σ', CldCp (up3 σ 3 0 1 (σ 3 0 1 - 1)) σ' c (σ 11 0 (σ 3 0 1 - 1).toNat).toNat → K none σ')
theorem sp_X3_restoreInto_e {i : Nat} {c : Nat} {σ : Sto} {K : Option AV → Sto → Prop} {KX : Nat → Sto → Prop} : sp_X3_restoreInto [vr 3 i, vr 1 c] σ K KX = (i < 1 ∧ c < 2 ∧ Phy σ ∧ 0 < σ 3 0 1 ∧ σ 3 0 1 ≤ 4 ∧ ClOK σ (σ 11 0 (σ 3 0 1 - 1).toNat).toNat ∧ ∀ σ', CldCp (up3 σ 3 0 1 (σ 3 0 1 - 1)) σ' c (σ 11 0 (σ 3 0 1 - 1).toNat).toNat → K none σ') := propext ⟨fun h => by obtain ⟨_, _, h, hb⟩ := h; cases h; exact hb, fun hb => ⟨_, _, rfl, hb⟩⟩
def pr_X3_restoreInto : Par := (ftX3, [(25, (2, 0, 1 + 1, sp_X1_copyFrom))], [], [], 0, 0, none)
def rm_X3_restoreInto : Room := { frames := 3, cells := 0, slots := 0, locals := 65 }
theorem ca_X3_restoreInto_25 : List.lookup 25 pr_X3_restoreInto.2.1 = some (2, 0, 1 + 1, sp_X1_copyFrom) := rfl
set_option maxRecDepth 100000 in
set_option maxHeartbeats 4000000 in
theorem sem_X3_restoreInto : Sem pr_X3_restoreInto cX3_restoreInto 2 sp_X3_restoreInto := by
  rintro a σ K KX ⟨i, c, rfl, hi, hc, hP, h0, h4, hC, hK⟩
  refine ⟨by simp [vr, vi, nj], Nat.le_of_ble_eq_true rfl, fun G hG => ?_⟩
  have hi0 : i = 0 := by omega
  subst hi0
  have hc6 : c < 6 := by omega
  have rn : inR (σ 3 0 1) := by unfold inR; omega
  have hsr := hP.2.2.2.1 (σ 3 0 1 - 1).toNat (by omega)
  obtain ⟨s, hs6⟩ : ∃ s : Nat, (σ 11 0 (σ 3 0 1 - 1).toNat).toNat = s := ⟨_, rfl⟩
  rw [hs6] at hC hK
  have s6 : s < 6 := by omega
  have hcs : c ≠ s := by omega
  have m0 : 0 ≤ σ 3 0 1 - 1 := by omega
  have m4 : σ 3 0 1 - 1 < 4 := by omega
  have hPτ : Phy (up3 σ 3 0 1 (σ 3 0 1 - 1)) := by
    unfold Phy bx4
    simp only [up_nc (show (0:Nat) ≠ 3 by omega), up_nc (show (9:Nat) ≠ 3 by omega), up_nc (show (11:Nat) ≠ 3 by omega)]
    exact hP
  have hCτ : ClOK (up3 σ 3 0 1 (σ 3 0 1 - 1)) s := by
    unfold ClOK cn_ en EntOK
    simp only [up_nc (show (0:Nat) ≠ 3 by omega), up_nc (show (9:Nat) ≠ 3 by omega), up_nc (show (1:Nat) ≠ 3 by omega), up_nc (show (2:Nat) ≠ 3 by omega), up_nc (show (10:Nat) ≠ 3 by omega)]
    exact hC
  show G 0 [vr 3 0, vr 1 c] [] σ 0
  refine run hG [] 60 ?_
  simp only [wpn_s, wpn_0, br_T, br_F, st1, st2, true_and, and_true, ↓reduceIte, if_true, if_false, List.contains_nil, List.contains_cons, Bool.or_false, Bool.or_true, Bool.true_or, Bool.false_or, Bool.false_eq_true, bit_0, bit_1, bit_b, true_or, or_true, or_false, false_or, up_e, up_nc, up_nj, ne_eq, not_false_eq_true, not_true_eq_false, inR_n, inR_m1, bi_RT, br_bi, Nat.reduceAdd, Nat.reduceLT, Nat.reduceLeDiff, Nat.reduceEqDiff, Nat.reduceBEq, Nat.zero_le, Int.reduceAdd, Int.reduceNeg, Int.reduceLE, Int.reduceLT, Int.reduceToNat, Int.reduceNatCast, Int.reduceEq, Int.reduceSub, Int.reduceMul, rcv_e, take_c, take_z, drop_c, drop_z, rev_c, rev_n, app_c, app_n, tol_s, tol_n, len_c, len_n, Nat.le_refl, s1i_e, s2i_e, s1r_e, sir_e, siir_e, srir_e, c1_i, c1_r, s1v_e, s2v_e, ldv_0, ldv_s, ldx_0, ldx_s, ldi_0, ldi_s, ldr_0, ldr_s, fg_0_0, fg_0_1, fg_0_2, fg_0_3, fg_0_4, fg_0_5, fg_1_0, fg_1_1, fg_1_2, fg_1_3, fg_1_4, fg_1_5, fg_1_6, fg_1_7, fg_2_0, fg_2_1, fg_2_2, fg_2_3, fg_2_4, fg_2_5, fg_3_0, fg_3_1, fg_4_0, fg_4_1, fg_4_2, fg_4_3, fg_4_4, fg_4_5, fg_5_0, fg_5_1, fg_5_2, fg_5_3, fg_5_4, fg_5_5, fg_5_6, fg_6_0, fg_6_1, fg_6_2, fg_6_3, fg_7_0, fg_7_1, fg_7_2, fg_7_3, fg_7_4, fg_7_5, fg_8_0, fg_8_1, fg_8_2, fg_8_3, fg_8_4, fg_8_5, fg_8_6, fg_8_7, fg_8_8, fg_8_9, fg_8_10, fg_8_11, fg_8_12, fg_8_13, cnt_0, cnt_1, cnt_2, cnt_3, cnt_4, cnt_5, cnt_6, cnt_7, cnt_8, cnt_9, cnt_10, cnt_11, cnt_12, cnt_13, cnt_14, fk, rd, al_9, al_10, al_11, al_13, al_12_0, al_12_1, al_12_2, al_12_3, al_12_4, al_12_5, al_12_6, al_12_7, al_12_8, al_12_9, al_12_10, al_12_11, stepd_ok dX3_restoreInto_0, sf_aload_n0, stepd_ok dX3_restoreInto_1, sf_getfield (P := pr_X3_restoreInto) ftX3_18, stepd_ok dX3_restoreInto_4, jk_at (pc := 4) (off := 26) (t := 30) rfl, jo_at (pc := 4) (off := 26) (t := 30) rfl, sf_ifCond_le, stepd_ok dX3_restoreInto_7, stepd_ok dX3_restoreInto_8, sf_dup, stepd_ok dX3_restoreInto_9, stepd_ok dX3_restoreInto_12, sf_iconst, stepd_ok dX3_restoreInto_13, sf_isub, stepd_ok dX3_restoreInto_14, sf_putfield (P := pr_X3_restoreInto) ftX3_18, stepd_ok dX3_restoreInto_17, sf_aload_n1, stepd_ok dX3_restoreInto_18, stepd_ok dX3_restoreInto_19, sf_getfield (P := pr_X3_restoreInto) ftX3_11, stepd_ok dX3_restoreInto_22, stepd_ok dX3_restoreInto_23, stepd_ok dX3_restoreInto_26, sf_aaload, stepd_ok dX3_restoreInto_27, sf_inv (P := pr_X3_restoreInto) ca_X3_restoreInto_25 rfl, stepd_ok dX3_restoreInto_30, sf_vret (P := pr_X3_restoreInto) rfl rfl, sp_X1_copyFrom_e, hc6, rn, hs6, s6, hcs, m0, m4, hPτ, hCτ]
  exact ⟨fun _ => hK, fun h => absurd h0 h⟩
theorem cn_X3_restoreInto (l : Launch) (Γ : Ga) : Cn l Γ yX3_restoreInto (wsy yX3_restoreInto cX3_restoreInto 2 none) rm_X3_restoreInto 0 sp_X3_restoreInto := Cn_of (P := pr_X3_restoreInto) (own := RX3) (by decide) rfl rfl (by decide) rfl ⟨rfl, rfl⟩ ftX3_ok (List.forall_mem_cons.mpr ⟨callV_of (rc := 1) (cn_X1_copyFrom l Γ) rfl rfl (List.forall_mem_cons.mpr ⟨wl_X3_25, fun _ h => wm_X1_copyFrom h⟩) ⟨rfl, by decide, by decide, by decide +kernel⟩ ⟨by decide, by decide⟩, fun _ h => (List.not_mem_nil h).elim⟩) (fun _ h => (List.not_mem_nil h).elim) (fun _ _ _ _ _ _ _ _ _ _ q hq => (List.not_mem_nil hq).elim) sem_X3_restoreInto
