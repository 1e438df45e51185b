/-- what reading the text into the cloud c gives: n words, the fault r -/
def RdiP (σ σ' : Sto) (c : Nat) (r : Int) : Prop := ∃ n : Nat, n ≤ 24 ∧ (∀ i, i < n → ps (hrc σ) i < σ 6 0 1 ∧ itmi (hrc σ) i = -1) ∧ σ' 1 c 1 = n ∧ (∀ i, i < n → WordIs σ' (en σ c i) (hrc σ) (ps (hrc σ) i)) ∧ ((σ 6 0 1 ≤ ps (hrc σ) n ∧ r = -1) ∨ (ps (hrc σ) n < σ 6 0 1 ∧ itmi (hrc σ) n ≠ -1 ∧ r = itmi (hrc σ) n)) ∧ ∀ c' i k : Nat, (c' ≠ 1 ∨ i ≠ c ∨ k ≠ 1) → (c' ≠ 2 ∨ i < 24 * c ∨ 24 * c + 24 ≤ i) → (c' ≠ 10 ∨ i < 24 * c ∨ 24 * c + 24 ≤ i) → (c' ≠ 6 ∨ i ≠ 0 ∨ (k ≠ 2 ∧ k ≠ 3)) → σ' c' i k = σ c' i k
theorem ps_r {h : Int → Int} : ∀ i : Nat, 0 ≤ ps h i := by
  intro i
  induction i with
  | zero => exact Int.le_refl 0
  | succ i ih => show 0 ≤ rpos h (ps h i) + 3; unfold rpos qpos; omega
/-- a good item's word is a good entry -/
theorem word_ok {σ : Sto} {e : Nat} {h : Int → Int} {full kn : Prop} {p : Int} (hp : 0 ≤ p) (hw : WordIs σ e h p) (hi : itm h full kn p = -1) (hbox : σ 0 e 0 = 1 → 0 ≤ σ 0 e 2 ∧ σ 0 e 2 + σ 0 e 4 ≤ 80 ∧ 0 ≤ σ 0 e 3 ∧ σ 0 e 3 + σ 0 e 5 ≤ 50 ∧ 1 ≤ σ 0 e 4 ∧ 1 ≤ σ 0 e 5) : EntOK σ e := by
  obtain ⟨⟨w1, w2⟩, w3, w4, w5⟩ := hw
  have hk10 := rn_le (P := isL) (h := h) 10 p
  have q0 : 0 ≤ qpos h p := by unfold qpos; omega
  have r0 : 0 ≤ rpos h p := by unfold rpos; omega
  unfold itm at hi
  by_cases hf : full
  · rw [pif_t hf] at hi; omega
  rw [pif_f hf] at hi
  by_cases g1 : let0 h kn p ≠ -1
  · rw [pif_t g1] at hi; exact absurd hi g1
  rw [pif_f g1] at hi
  by_cases g2 : wgt0 h (qpos h p) ≠ -1
  · rw [pif_t g2] at hi; exact absurd hi g2
  rw [pif_f g2] at hi
  have g1 := Classical.not_not.mp g1
  have g2 := Classical.not_not.mp g2
  have k0 : rn isL h p 10 ≠ 0 := by
    intro z
    unfold let0 at g1
    rw [pif_t (Or.inl z)] at g1; omega
  have wr : 1 ≤ num h (qpos h p) (rn isD h (qpos h p) 4) ∧ num h (qpos h p) (rn isD h (qpos h p) 4) ≤ 1000 := by
    apply Classical.not_not.mp
    intro z
    unfold wgt0 at g2
    by_cases z1 : rn isD h (qpos h p) 4 = 0 ∨ isD (h (qpos h p + rn isD h (qpos h p) 4))
    · rw [pif_t z1] at g2; omega
    · rw [pif_f z1, pif_t z] at g2; omega
  have d1 : 48 ≤ h (rpos h p) ∧ h (rpos h p) ≤ 50 := by
    apply Classical.not_not.mp
    intro z
    unfold dgt at hi
    rw [pif_t z] at hi; omega
  have d2 : 48 ≤ h (rpos h p + 1) ∧ h (rpos h p + 1) ≤ 51 := by
    apply Classical.not_not.mp
    intro z
    unfold dgt at hi
    rw [pif_f (by omega), pif_t z] at hi; omega
  refine ⟨by omega, fun k hk => ?_, by omega, by omega, by omega, hbox⟩
  have := rn_all (P := isL) (h := h) 10 p k (by omega)
  unfold isL at this
  rw [w2 k (by omega)]; omega
def sp_X6_readInto : Spec := fun a σ K KX => ∃ (i : Nat) (c : Nat), a = [vr 6 i, vr 1 c] ∧ (i < 1 ∧ c < 6 ∧ Phy σ ∧ TxOK σ ∧ (∀ e, 24 * c ≤ e → e < 24 * c + 24 → σ 0 e 0 = 1 → 0 ≤ σ 0 e 2 ∧ σ 0 e 2 + σ 0 e 4 ≤ 80 ∧ 0 ≤ σ 0 e 3 ∧ σ 0 e 3 + σ 0 e 5 ≤ 50 ∧ 1 ≤ σ 0 e 4 ∧ 1 ≤ σ 0 e 5) ∧ ∀ r σ', RdiP σ σ' c r → K (some (vi r)) σ')
theorem sp_X6_readInto_e {i : Nat} {c : Nat} {σ : Sto} {K : Option AV → Sto → Prop} {KX : Nat → Sto → Prop} : sp_X6_readInto [vr 6 i, vr 1 c] σ K KX = (i < 1 ∧ c < 6 ∧ Phy σ ∧ TxOK σ ∧ (∀ e, 24 * c ≤ e → e < 24 * c + 24 → σ 0 e 0 = 1 → 0 ≤ σ 0 e 2 ∧ σ 0 e 2 + σ 0 e 4 ≤ 80 ∧ 0 ≤ σ 0 e 3 ∧ σ 0 e 3 + σ 0 e 5 ≤ 50 ∧ 1 ≤ σ 0 e 4 ∧ 1 ≤ σ 0 e 5) ∧ ∀ r σ', RdiP σ σ' c r → K (some (vi r)) σ') := propext ⟨fun h => by obtain ⟨_, _, h, hb⟩ := h; cases h; exact hb, fun hb => ⟨_, _, rfl, hb⟩⟩
def pr_X6_readInto : Par := (ftX6, [(30, (2, 0, 6 + 1, sp_X6_readWord))], [], [], 1, 0, none)
def rm_X6_readInto : Room := { frames := 4, cells := 0, slots := 0, locals := 89 }
theorem ca_X6_readInto_30 : List.lookup 30 pr_X6_readInto.2.1 = some (2, 0, 6 + 1, sp_X6_readWord) := rfl
set_option maxRecDepth 100000 in
set_option maxHeartbeats 4000000 in
theorem sem_X6_readInto : Sem pr_X6_readInto cX6_readInto 3 sp_X6_readInto := by
  rintro a σ K KX ⟨i, c, rfl, hi, hc, hP, hT, hbx, hK⟩
  refine ⟨by simp [vr, vi, nj], Nat.le_of_ble_eq_true rfl, fun G hG => ?_⟩
  have hi0 : i = 0 := by omega
  subst hi0
  obtain ⟨h, hh⟩ : ∃ h, h = hrc σ := ⟨_, rfl⟩
  have rlen : inR (σ 6 0 1) := by have := hT.1; unfold inR; omega
  have fr : Sto → Prop := fun τ => ∀ c' i k : Nat, (c' ≠ 1 ∨ i ≠ c ∨ k ≠ 1) → (c' ≠ 2 ∨ i < 24 * c ∨ 24 * c + 24 ≤ i) → (c' ≠ 10 ∨ i < 24 * c ∨ 24 * c + 24 ≤ i) → (c' ≠ 6 ∨ i ≠ 0 ∨ (k ≠ 2 ∧ k ≠ 3)) → τ c' i k = σ c' i k
  have exit : ∀ (n : Nat) (τ : Sto) (j : Int) (r : Int), n ≤ 24 → (∀ i, i < n → ps h i < σ 6 0 1 ∧ itmi h i = -1) → τ 1 c 1 = n → (∀ i, i < n → WordIs τ (en σ c i) h (ps h i)) → ((σ 6 0 1 ≤ ps h n ∧ r = -1) ∨ (ps h n < σ 6 0 1 ∧ itmi h n ≠ -1 ∧ r = itmi h n)) → (∀ c' i k : Nat, (c' ≠ 1 ∨ i ≠ c ∨ k ≠ 1) → (c' ≠ 2 ∨ i < 24 * c ∨ 24 * c + 24 ≤ i) → (c' ≠ 10 ∨ i < 24 * c ∨ 24 * c + 24 ≤ i) → (c' ≠ 6 ∨ i ≠ 0 ∨ (k ≠ 2 ∧ k ≠ 3)) → τ c' i k = σ c' i k) → τ 6 0 3 = r → G 53 [vr 6 0, vr 1 c, vi j] [] τ 0 := by
    intro n τ j r h1 h2 h3 h4 h5 h6 h7
    refine run hG [] 60 ?_
    simp only [wpn_s, wpn_0, br_T, br_F, st1, st2, true_and, and_true, ↓reduceIte, if_true, if_false, List.contains_nil, List.contains_cons, Bool.or_false, Bool.or_true, Bool.true_or, Bool.false_or, Bool.false_eq_true, bit_0, bit_1, bit_b, true_or, or_true, or_false, false_or, up_e, up_nc, up_nj, ne_eq, not_false_eq_true, not_true_eq_false, inR_n, inR_m1, bi_RT, br_bi, Nat.reduceAdd, Nat.reduceLT, Nat.reduceLeDiff, Nat.reduceEqDiff, Nat.reduceBEq, Nat.zero_le, Int.reduceAdd, Int.reduceNeg, Int.reduceLE, Int.reduceLT, Int.reduceToNat, Int.reduceNatCast, Int.reduceEq, Int.reduceSub, Int.reduceMul, set_0, set_s, len_c, len_n, nc2_0, nc2_1i, nc2_1r, nc2_1j, nc2_s, rcv_e, take_c, take_z, drop_c, drop_z, rev_c, rev_n, app_c, app_n, tol_s, tol_n, Nat.le_refl, s1i_e, s2i_e, s1r_e, sir_e, siir_e, srir_e, c1_i, c1_r, s1v_e, s2v_e, ldv_0, ldv_s, ldx_0, ldx_s, ldi_0, ldi_s, ldr_0, ldr_s, fg_0_0, fg_0_1, fg_0_2, fg_0_3, fg_0_4, fg_0_5, fg_1_0, fg_1_1, fg_1_2, fg_1_3, fg_1_4, fg_1_5, fg_1_6, fg_1_7, fg_2_0, fg_2_1, fg_2_2, fg_2_3, fg_2_4, fg_2_5, fg_3_0, fg_3_1, fg_4_0, fg_4_1, fg_4_2, fg_4_3, fg_4_4, fg_4_5, fg_5_0, fg_5_1, fg_5_2, fg_5_3, fg_5_4, fg_5_5, fg_5_6, fg_6_0, fg_6_1, fg_6_2, fg_6_3, fg_7_0, fg_7_1, fg_7_2, fg_7_3, fg_7_4, fg_7_5, fg_8_0, fg_8_1, fg_8_2, fg_8_3, fg_8_4, fg_8_5, fg_8_6, fg_8_7, fg_8_8, fg_8_9, fg_8_10, fg_8_11, fg_8_12, fg_8_13, cnt_0, cnt_1, cnt_2, cnt_3, cnt_4, cnt_5, cnt_6, cnt_7, cnt_8, cnt_9, cnt_10, cnt_11, cnt_12, cnt_13, cnt_14, fk, stepd_ok dX6_readInto_0, sf_aload_n0, stepd_ok dX6_readInto_1, sf_iconst, stepd_ok dX6_readInto_2, sf_putfield (P := pr_X6_readInto) ftX6_19, stepd_ok dX6_readInto_5, stepd_ok dX6_readInto_6, stepd_ok dX6_readInto_7, sf_putfield (P := pr_X6_readInto) ftX6_22, stepd_ok dX6_readInto_10, sf_aload_n1, stepd_ok dX6_readInto_11, stepd_ok dX6_readInto_12, sf_putfield (P := pr_X6_readInto) ftX6_25, stepd_ok dX6_readInto_15, stepd_ok dX6_readInto_16, sf_istore_n2, stepd_ok dX6_readInto_17, sf_iload_n2, stepd_ok dX6_readInto_18, sf_bipush, stepd_ok dX6_readInto_20, jk_at (pc := 20) (off := 33) (t := 53) rfl, jo_at (pc := 20) (off := 33) (t := 53) rfl, sf_if_icmp_gt, stepd_ok dX6_readInto_23, stepd_ok dX6_readInto_24, sf_getfield (P := pr_X6_readInto) ftX6_19, stepd_ok dX6_readInto_27, stepd_ok dX6_readInto_28, sf_getfield (P := pr_X6_readInto) ftX6_15, stepd_ok dX6_readInto_31, jk_at (pc := 31) (off := 22) (t := 53) rfl, jo_at (pc := 31) (off := 22) (t := 53) rfl, sf_if_icmp_ge, stepd_ok dX6_readInto_34, stepd_ok dX6_readInto_35, sf_getfield (P := pr_X6_readInto) ftX6_22, stepd_ok dX6_readInto_38, stepd_ok dX6_readInto_39, jk_at (pc := 39) (off := 14) (t := 53) rfl, jo_at (pc := 39) (off := 14) (t := 53) rfl, sf_if_icmp_ne, stepd_ok dX6_readInto_42, stepd_ok dX6_readInto_43, stepd_ok dX6_readInto_44, sf_inv (P := pr_X6_readInto) ca_X6_readInto_30 rfl, stepd_ok dX6_readInto_47, sf_iinc, stepd_ok dX6_readInto_50, jk_at (pc := 50) (off := -33) (t := 17) rfl, sf_goto, stepd_ok dX6_readInto_53, stepd_ok dX6_readInto_54, stepd_ok dX6_readInto_57, sf_iret1 (P := pr_X6_readInto) rfl rfl, sp_X6_readWord_e, Nat.zero_lt_one, hc, h7]
    exact hK _ _ ⟨n, h1, by rw [← hh]; exact h2, h3, by rw [← hh]; exact h4, by rw [← hh]; exact h5, h6⟩
  have loop : ∀ (m n : Nat) (τ : Sto), n + m = 25 → (∀ i, i < n → ps h i < σ 6 0 1 ∧ itmi h i = -1) → τ 1 c 1 = n → τ 6 0 2 = ps h n → τ 6 0 3 = -1 → (∀ i, i < n → WordIs τ (en σ c i) h (ps h i)) → (∀ c' i k : Nat, (c' ≠ 1 ∨ i ≠ c ∨ k ≠ 1) → (c' ≠ 2 ∨ i < 24 * c ∨ 24 * c + 24 ≤ i) → (c' ≠ 10 ∨ i < 24 * c ∨ 24 * c + 24 ≤ i) → (c' ≠ 6 ∨ i ≠ 0 ∨ (k ≠ 2 ∧ k ≠ 3)) → τ c' i k = σ c' i k) → G 17 [vr 6 0, vr 1 c, vi n] [] τ 0 := by
    intro m
    induction m with
    | zero =>
      intro n τ hn h2 h3 h4 h5 h6 h7
      -- 25 good words can't be
      have := (h2 24 (by omega)).2
      unfold itmi itm at this
      rw [pif_t (Nat.le_refl 24)] at this
      have := ps_r (h := h) 24
      omega
    | succ m ih =>
      intro n τ hn h2 h3 h4 h5 h6 h7
      have t61 : τ 6 0 1 = σ 6 0 1 := h7 6 0 1 (by omega) (by omega) (by omega) (by omega)
      have t12 : ∀ k, τ 12 2 k = σ 12 2 k := fun k => h7 12 2 k (by omega) (by omega) (by omega) (by omega)
      have hTτ : TxOK τ := tx_congr t61 t12 hT
      have hhτ : hrc τ = h := by rw [hh]; exact hrc_congr t61 t12
      have hPτ : Phy τ := phy_congr (fun c' i k q => h7 c' i k (by omega) (by omega) (by omega) (by omega)) hP
      have p0 := ps_r (h := h) n
      have hn24 : n ≤ 24 := by omega
      have rn_ : inR (n : Int) := by unfold inR; omega
      by_cases hend : ps h n < σ 6 0 1
      · have p1 : ps h n ≤ 200 := by have := hT.1.2; omega
        have rp : inR (ps h n) := by unfold inR; omega
        have een : ∀ j, en τ c j = en σ c j := fun j => by unfold en; rw [h7 9 c j (by omega) (by omega) (by omega) (by omega)]
        have ecn : cn_ τ c = n := by unfold cn_; rw [h3]; omega
        have hn24i : ¬ (24 : Int) < n := by omega
        have hCτ : ClOK τ c := by
          refine ⟨by rw [h3]; omega, fun w hw => ?_⟩
          rw [ecn] at hw
          rw [een w]
          have he := en_lt hP hc (show w < 24 by omega)
          refine word_ok (ps_r w) (h6 w hw) (h2 w hw).2 ?_
          have f0 : ∀ k, τ 0 (en σ c w) k = σ 0 (en σ c w) k := fun k => h7 0 _ k (by omega) (by omega) (by omega) (by omega)
          simp only [f0]
          exact hbx _ he.2.1 he.2.2
        refine run hG [17, 53] 60 ?_
        simp only [wpn_s, wpn_0, br_T, br_F, st1, st2, true_and, and_true, ↓reduceIte, if_true, if_false, List.contains_nil, List.contains_cons, Bool.or_false, Bool.or_true, Bool.true_or, Bool.false_or, Bool.false_eq_true, bit_0, bit_1, bit_b, true_or, or_true, or_false, false_or, up_e, up_nc, up_nj, ne_eq, not_false_eq_true, not_true_eq_false, inR_n, inR_m1, bi_RT, br_bi, Nat.reduceAdd, Nat.reduceLT, Nat.reduceLeDiff, Nat.reduceEqDiff, Nat.reduceBEq, Nat.zero_le, Int.reduceAdd, Int.reduceNeg, Int.reduceLE, Int.reduceLT, Int.reduceToNat, Int.reduceNatCast, Int.reduceEq, Int.reduceSub, Int.reduceMul, set_0, set_s, len_c, len_n, nc2_0, nc2_1i, nc2_1r, nc2_1j, nc2_s, rcv_e, take_c, take_z, drop_c, drop_z, rev_c, rev_n, app_c, app_n, tol_s, tol_n, Nat.le_refl, s1i_e, s2i_e, s1r_e, sir_e, siir_e, srir_e, c1_i, c1_r, s1v_e, s2v_e, ldv_0, ldv_s, ldx_0, ldx_s, ldi_0, ldi_s, ldr_0, ldr_s, fg_0_0, fg_0_1, fg_0_2, fg_0_3, fg_0_4, fg_0_5, fg_1_0, fg_1_1, fg_1_2, fg_1_3, fg_1_4, fg_1_5, fg_1_6, fg_1_7, fg_2_0, fg_2_1, fg_2_2, fg_2_3, fg_2_4, fg_2_5, fg_3_0, fg_3_1, fg_4_0, fg_4_1, fg_4_2, fg_4_3, fg_4_4, fg_4_5, fg_5_0, fg_5_1, fg_5_2, fg_5_3, fg_5_4, fg_5_5, fg_5_6, fg_6_0, fg_6_1, fg_6_2, fg_6_3, fg_7_0, fg_7_1, fg_7_2, fg_7_3, fg_7_4, fg_7_5, fg_8_0, fg_8_1, fg_8_2, fg_8_3, fg_8_4, fg_8_5, fg_8_6, fg_8_7, fg_8_8, fg_8_9, fg_8_10, fg_8_11, fg_8_12, fg_8_13, cnt_0, cnt_1, cnt_2, cnt_3, cnt_4, cnt_5, cnt_6, cnt_7, cnt_8, cnt_9, cnt_10, cnt_11, cnt_12, cnt_13, cnt_14, fk, stepd_ok dX6_readInto_0, sf_aload_n0, stepd_ok dX6_readInto_1, sf_iconst, stepd_ok dX6_readInto_2, sf_putfield (P := pr_X6_readInto) ftX6_19, stepd_ok dX6_readInto_5, stepd_ok dX6_readInto_6, stepd_ok dX6_readInto_7, sf_putfield (P := pr_X6_readInto) ftX6_22, stepd_ok dX6_readInto_10, sf_aload_n1, stepd_ok dX6_readInto_11, stepd_ok dX6_readInto_12, sf_putfield (P := pr_X6_readInto) ftX6_25, stepd_ok dX6_readInto_15, stepd_ok dX6_readInto_16, sf_istore_n2, stepd_ok dX6_readInto_17, sf_iload_n2, stepd_ok dX6_readInto_18, sf_bipush, stepd_ok dX6_readInto_20, jk_at (pc := 20) (off := 33) (t := 53) rfl, jo_at (pc := 20) (off := 33) (t := 53) rfl, sf_if_icmp_gt, stepd_ok dX6_readInto_23, stepd_ok dX6_readInto_24, sf_getfield (P := pr_X6_readInto) ftX6_19, stepd_ok dX6_readInto_27, stepd_ok dX6_readInto_28, sf_getfield (P := pr_X6_readInto) ftX6_15, stepd_ok dX6_readInto_31, jk_at (pc := 31) (off := 22) (t := 53) rfl, jo_at (pc := 31) (off := 22) (t := 53) rfl, sf_if_icmp_ge, stepd_ok dX6_readInto_34, stepd_ok dX6_readInto_35, sf_getfield (P := pr_X6_readInto) ftX6_22, stepd_ok dX6_readInto_38, stepd_ok dX6_readInto_39, jk_at (pc := 39) (off := 14) (t := 53) rfl, jo_at (pc := 39) (off := 14) (t := 53) rfl, sf_if_icmp_ne, stepd_ok dX6_readInto_42, stepd_ok dX6_readInto_43, stepd_ok dX6_readInto_44, sf_inv (P := pr_X6_readInto) ca_X6_readInto_30 rfl, stepd_ok dX6_readInto_47, sf_iinc, stepd_ok dX6_readInto_50, jk_at (pc := 50) (off := -33) (t := 17) rfl, sf_goto, stepd_ok dX6_readInto_53, stepd_ok dX6_readInto_54, stepd_ok dX6_readInto_57, sf_iret1 (P := pr_X6_readInto) rfl rfl, sp_X6_readWord_e, Nat.zero_lt_one, hc, rn_, hn24i, t61, h4, h5, rp, rlen, hend, hTτ, hPτ, hCτ, p0, p1, hhτ]
        intro τ' hr
        rw [ecn, een] at hr
        obtain ⟨r1, r2, r3, rps, r4⟩ := hr
        rw [hhτ, h4, ecn] at r1
        rw [hhτ, h4] at r2
        have hkn : (∃ j, j < n ∧ WL τ (en τ c j) h (ps h n) (rn isL h (ps h n) 10)) ↔ knw h n := by
          constructor
          · rintro ⟨j, hj, s1, s2⟩
            rw [een] at s1 s2
            obtain ⟨⟨w1, w2⟩, -⟩ := h6 j hj
            have ek : rn isL h (ps h j) 10 = rn isL h (ps h n) 10 := by omega
            refine ⟨j, hj, ek, fun q hq => ?_⟩
            have a := s2 q hq
            have b := w2 q (by omega)
            omega
          · rintro ⟨j, hj, s1, s2⟩
            obtain ⟨⟨w1, w2⟩, -⟩ := h6 j hj
            refine ⟨j, hj, by rw [een, w1, s1], fun q hq => ?_⟩
            rw [een, w2 q (by omega), s2 q hq]
        have hit : τ' 6 0 3 = itmi h n := by
          rw [r1]; unfold itmi
          rw [show (∃ j, j < n ∧ WL τ (en τ c j) h (ps h n) (rn isL h (ps h n) 10)) = knw h n from propext hkn]
        have hf' : ∀ c' i k : Nat, (c' ≠ 1 ∨ i ≠ c ∨ k ≠ 1) → (c' ≠ 2 ∨ i < 24 * c ∨ 24 * c + 24 ≤ i) → (c' ≠ 10 ∨ i < 24 * c ∨ 24 * c + 24 ≤ i) → (c' ≠ 6 ∨ i ≠ 0 ∨ (k ≠ 2 ∧ k ≠ 3)) → τ' c' i k = σ c' i k := by
          intro c' i k a b d g
          have hx : n < 24 → 24 * c ≤ en σ c n ∧ en σ c n < 24 * c + 24 := fun q => (en_lt hP hc q).2
          rw [r4 c' i k a (by omega) (by omega) g]; exact h7 c' i k a b d g
        have hw' : ∀ i, i < n → WordIs τ' (en σ c i) h (ps h i) := by
          intro i hi
          have hie : n < 24 → en σ c i ≠ en σ c n := by
            intro q z
            have g1 := hP.2.1 c hc i (by omega)
            have g2 := hP.2.1 c hc n (by omega)
            unfold en at z
            have := hP.2.2.1 c hc i (by omega) n (by omega) (by omega)
            omega
          have f2 : ∀ k, τ' 2 (en σ c i) k = τ 2 (en σ c i) k := fun k => r4 2 _ k (by omega) (by omega) (by omega) (by omega)
          have f10 : ∀ k, τ' 10 (en σ c i) k = τ 10 (en σ c i) k := fun k => r4 10 _ k (by omega) (by omega) (by omega) (by omega)
          obtain ⟨⟨w1, w2⟩, w3, w4, w5⟩ := h6 i hi
          exact ⟨⟨by rw [f2]; exact w1, fun j hj => by rw [f10]; exact w2 j hj⟩, by rw [f2]; exact w3, by rw [f2]; exact w4, by rw [f2]; exact w5⟩
        by_cases hgood : itmi h n = -1
        · obtain ⟨g1, g2, g3⟩ := r2 (by rw [hit]; exact hgood)
          have hn23 : n < 24 := by
            apply Nat.lt_of_not_le
            intro z
            unfold itmi itm at hgood
            rw [pif_t z] at hgood; omega
          refine ih (n + 1) τ' (by omega) (fun i hi => ?_) (by omega) g1 (by rw [hit]; exact hgood) (fun i hi => ?_) hf'
          · rcases Nat.lt_succ_iff_lt_or_eq.mp hi with z | z
            · exact h2 i z
            · subst z; exact ⟨hend, hgood⟩
          · rcases Nat.lt_succ_iff_lt_or_eq.mp hi with z | z
            · exact hw' i z
            · subst z; exact g2
        · -- a fault: once more round, and out
          have t31 : τ' 6 0 3 ≠ -1 := by rw [hit]; exact hgood
          have r31 : inR (τ' 6 0 3) := by
            rw [hit]
            have hk10 := rn_le (P := isL) (h := h) 10 (ps h n)
            have hd4 := rn_le (P := isD) (h := h) 4 (qpos h (ps h n))
            unfold itmi itm
            by_cases z1 : 24 ≤ n
            · rw [pif_t z1]; exact rp
            rw [pif_f z1]
            have rl : inR (let0 h (knw h n) (ps h n)) := by
              unfold let0
              by_cases y1 : rn isL h (ps h n) 10 = 0 ∨ h (ps h n + rn isL h (ps h n) 10) ≠ 44
              · rw [pif_t y1]; unfold inR; omega
              · rw [pif_f y1]
                by_cases y2 : knw h n
                · rw [pif_t y2]; exact rp
                · rw [pif_f y2]; exact ⟨by decide, by decide⟩
            have rw_ : inR (wgt0 h (qpos h (ps h n))) := by
              have q0 : 0 ≤ qpos h (ps h n) ∧ qpos h (ps h n) ≤ 300 := by unfold qpos; omega
              unfold wgt0
              by_cases y1 : rn isD h (qpos h (ps h n)) 4 = 0 ∨ isD (h (qpos h (ps h n) + rn isD h (qpos h (ps h n)) 4))
              · rw [pif_t y1]; unfold inR; omega
              · rw [pif_f y1]
                by_cases y2 : ¬ (1 ≤ num h (qpos h (ps h n)) (rn isD h (qpos h (ps h n)) 4) ∧ num h (qpos h (ps h n)) (rn isD h (qpos h (ps h n)) 4) ≤ 1000)
                · rw [pif_t y2]; unfold inR; omega
                · rw [pif_f y2]
                  by_cases y3 : h (qpos h (ps h n) + rn isD h (qpos h (ps h n)) 4) ≠ 44
                  · rw [pif_t y3]; unfold inR; omega
                  · rw [pif_f y3]; exact ⟨by decide, by decide⟩
            by_cases z2 : let0 h (knw h n) (ps h n) ≠ -1
            · rw [pif_t z2]; exact rl
            rw [pif_f z2]
            by_cases z3 : wgt0 h (qpos h (ps h n)) ≠ -1
            · rw [pif_t z3]; exact rw_
            rw [pif_f z3]
            have r0 : 0 ≤ rpos h (ps h n) ∧ rpos h (ps h n) ≤ 400 := by unfold rpos qpos at *; omega
            unfold dgt
            by_cases y1 : ¬ (48 ≤ h (rpos h (ps h n)) ∧ h (rpos h (ps h n)) ≤ 50)
            · rw [pif_t y1]; unfold inR; omega
            rw [pif_f y1]
            by_cases y2 : ¬ (48 ≤ h (rpos h (ps h n) + 1) ∧ h (rpos h (ps h n) + 1) ≤ 51)
            · rw [pif_t y2]; unfold inR; omega
            rw [pif_f y2]
            by_cases y3 : h (rpos h (ps h n) + 2) ≠ 59
            · rw [pif_t y3]; unfold inR; omega
            rw [pif_f y3]; exact ⟨by decide, by decide⟩
          have hout := fun j => exit n τ' j (itmi h n) hn24 h2 (by rw [r3 t31, h3]) hw' (Or.inr ⟨hend, hgood, rfl⟩) hf' hit
          have t61' : τ' 6 0 1 = σ 6 0 1 := hf' 6 0 1 (by omega) (by omega) (by omega) (by omega)
          have rn1 : inR ((n : Int) + 1) := by unfold inR; omega
          refine run hG [17, 53] 60 ?_
          simp only [wpn_s, wpn_0, br_T, br_F, st1, st2, true_and, and_true, ↓reduceIte, if_true, if_false, List.contains_nil, List.contains_cons, Bool.or_false, Bool.or_true, Bool.true_or, Bool.false_or, Bool.false_eq_true, bit_0, bit_1, bit_b, true_or, or_true, or_false, false_or, up_e, up_nc, up_nj, ne_eq, not_false_eq_true, not_true_eq_false, inR_n, inR_m1, bi_RT, br_bi, Nat.reduceAdd, Nat.reduceLT, Nat.reduceLeDiff, Nat.reduceEqDiff, Nat.reduceBEq, Nat.zero_le, Int.reduceAdd, Int.reduceNeg, Int.reduceLE, Int.reduceLT, Int.reduceToNat, Int.reduceNatCast, Int.reduceEq, Int.reduceSub, Int.reduceMul, set_0, set_s, len_c, len_n, nc2_0, nc2_1i, nc2_1r, nc2_1j, nc2_s, rcv_e, take_c, take_z, drop_c, drop_z, rev_c, rev_n, app_c, app_n, tol_s, tol_n, Nat.le_refl, s1i_e, s2i_e, s1r_e, sir_e, siir_e, srir_e, c1_i, c1_r, s1v_e, s2v_e, ldv_0, ldv_s, ldx_0, ldx_s, ldi_0, ldi_s, ldr_0, ldr_s, fg_0_0, fg_0_1, fg_0_2, fg_0_3, fg_0_4, fg_0_5, fg_1_0, fg_1_1, fg_1_2, fg_1_3, fg_1_4, fg_1_5, fg_1_6, fg_1_7, fg_2_0, fg_2_1, fg_2_2, fg_2_3, fg_2_4, fg_2_5, fg_3_0, fg_3_1, fg_4_0, fg_4_1, fg_4_2, fg_4_3, fg_4_4, fg_4_5, fg_5_0, fg_5_1, fg_5_2, fg_5_3, fg_5_4, fg_5_5, fg_5_6, fg_6_0, fg_6_1, fg_6_2, fg_6_3, fg_7_0, fg_7_1, fg_7_2, fg_7_3, fg_7_4, fg_7_5, fg_8_0, fg_8_1, fg_8_2, fg_8_3, fg_8_4, fg_8_5, fg_8_6, fg_8_7, fg_8_8, fg_8_9, fg_8_10, fg_8_11, fg_8_12, fg_8_13, cnt_0, cnt_1, cnt_2, cnt_3, cnt_4, cnt_5, cnt_6, cnt_7, cnt_8, cnt_9, cnt_10, cnt_11, cnt_12, cnt_13, cnt_14, fk, stepd_ok dX6_readInto_0, sf_aload_n0, stepd_ok dX6_readInto_1, sf_iconst, stepd_ok dX6_readInto_2, sf_putfield (P := pr_X6_readInto) ftX6_19, stepd_ok dX6_readInto_5, stepd_ok dX6_readInto_6, stepd_ok dX6_readInto_7, sf_putfield (P := pr_X6_readInto) ftX6_22, stepd_ok dX6_readInto_10, sf_aload_n1, stepd_ok dX6_readInto_11, stepd_ok dX6_readInto_12, sf_putfield (P := pr_X6_readInto) ftX6_25, stepd_ok dX6_readInto_15, stepd_ok dX6_readInto_16, sf_istore_n2, stepd_ok dX6_readInto_17, sf_iload_n2, stepd_ok dX6_readInto_18, sf_bipush, stepd_ok dX6_readInto_20, jk_at (pc := 20) (off := 33) (t := 53) rfl, jo_at (pc := 20) (off := 33) (t := 53) rfl, sf_if_icmp_gt, stepd_ok dX6_readInto_23, stepd_ok dX6_readInto_24, sf_getfield (P := pr_X6_readInto) ftX6_19, stepd_ok dX6_readInto_27, stepd_ok dX6_readInto_28, sf_getfield (P := pr_X6_readInto) ftX6_15, stepd_ok dX6_readInto_31, jk_at (pc := 31) (off := 22) (t := 53) rfl, jo_at (pc := 31) (off := 22) (t := 53) rfl, sf_if_icmp_ge, stepd_ok dX6_readInto_34, stepd_ok dX6_readInto_35, sf_getfield (P := pr_X6_readInto) ftX6_22, stepd_ok dX6_readInto_38, stepd_ok dX6_readInto_39, jk_at (pc := 39) (off := 14) (t := 53) rfl, jo_at (pc := 39) (off := 14) (t := 53) rfl, sf_if_icmp_ne, stepd_ok dX6_readInto_42, stepd_ok dX6_readInto_43, stepd_ok dX6_readInto_44, sf_inv (P := pr_X6_readInto) ca_X6_readInto_30 rfl, stepd_ok dX6_readInto_47, sf_iinc, stepd_ok dX6_readInto_50, jk_at (pc := 50) (off := -33) (t := 17) rfl, sf_goto, stepd_ok dX6_readInto_53, stepd_ok dX6_readInto_54, stepd_ok dX6_readInto_57, sf_iret1 (P := pr_X6_readInto) rfl rfl, sp_X6_readWord_e, Nat.zero_lt_one, hc, rn1, t61', t31, r31, rps, rlen]
          exact ⟨fun _ => hout _, fun _ => ⟨fun _ => hout _, fun _ => hout _⟩⟩
      · have hout := fun j => exit n τ j (-1) hn24 h2 h3 h6 (Or.inl ⟨by omega, rfl⟩) h7 h5
        have hn24i : ¬ (24 : Int) < n := by omega
        have rps : inR (ps h n) := by
          have hk : ps h n ≤ 1000 := by
            cases n with
            | zero => exact (by decide : (0 : Int) ≤ 1000)
            | succ n =>
              have hl := (h2 n (by omega)).1
              have := hT.1.2
              have hk10 := rn_le (P := isL) (h := h) 10 (ps h n)
              have hd4 := rn_le (P := isD) (h := h) 4 (qpos h (ps h n))
              show rpos h (ps h n) + 3 ≤ 1000
              unfold rpos qpos at *; omega
          unfold inR; omega
        refine run hG [17, 53] 60 ?_
        simp only [wpn_s, wpn_0, br_T, br_F, st1, st2, true_and, and_true, ↓reduceIte, if_true, if_false, List.contains_nil, List.contains_cons, Bool.or_false, Bool.or_true, Bool.true_or, Bool.false_or, Bool.false_eq_true, bit_0, bit_1, bit_b, true_or, or_true, or_false, false_or, up_e, up_nc, up_nj, ne_eq, not_false_eq_true, not_true_eq_false, inR_n, inR_m1, bi_RT, br_bi, Nat.reduceAdd, Nat.reduceLT, Nat.reduceLeDiff, Nat.reduceEqDiff, Nat.reduceBEq, Nat.zero_le, Int.reduceAdd, Int.reduceNeg, Int.reduceLE, Int.reduceLT, Int.reduceToNat, Int.reduceNatCast, Int.reduceEq, Int.reduceSub, Int.reduceMul, set_0, set_s, len_c, len_n, nc2_0, nc2_1i, nc2_1r, nc2_1j, nc2_s, rcv_e, take_c, take_z, drop_c, drop_z, rev_c, rev_n, app_c, app_n, tol_s, tol_n, Nat.le_refl, s1i_e, s2i_e, s1r_e, sir_e, siir_e, srir_e, c1_i, c1_r, s1v_e, s2v_e, ldv_0, ldv_s, ldx_0, ldx_s, ldi_0, ldi_s, ldr_0, ldr_s, fg_0_0, fg_0_1, fg_0_2, fg_0_3, fg_0_4, fg_0_5, fg_1_0, fg_1_1, fg_1_2, fg_1_3, fg_1_4, fg_1_5, fg_1_6, fg_1_7, fg_2_0, fg_2_1, fg_2_2, fg_2_3, fg_2_4, fg_2_5, fg_3_0, fg_3_1, fg_4_0, fg_4_1, fg_4_2, fg_4_3, fg_4_4, fg_4_5, fg_5_0, fg_5_1, fg_5_2, fg_5_3, fg_5_4, fg_5_5, fg_5_6, fg_6_0, fg_6_1, fg_6_2, fg_6_3, fg_7_0, fg_7_1, fg_7_2, fg_7_3, fg_7_4, fg_7_5, fg_8_0, fg_8_1, fg_8_2, fg_8_3, fg_8_4, fg_8_5, fg_8_6, fg_8_7, fg_8_8, fg_8_9, fg_8_10, fg_8_11, fg_8_12, fg_8_13, cnt_0, cnt_1, cnt_2, cnt_3, cnt_4, cnt_5, cnt_6, cnt_7, cnt_8, cnt_9, cnt_10, cnt_11, cnt_12, cnt_13, cnt_14, fk, stepd_ok dX6_readInto_0, sf_aload_n0, stepd_ok dX6_readInto_1, sf_iconst, stepd_ok dX6_readInto_2, sf_putfield (P := pr_X6_readInto) ftX6_19, stepd_ok dX6_readInto_5, stepd_ok dX6_readInto_6, stepd_ok dX6_readInto_7, sf_putfield (P := pr_X6_readInto) ftX6_22, stepd_ok dX6_readInto_10, sf_aload_n1, stepd_ok dX6_readInto_11, stepd_ok dX6_readInto_12, sf_putfield (P := pr_X6_readInto) ftX6_25, stepd_ok dX6_readInto_15, stepd_ok dX6_readInto_16, sf_istore_n2, stepd_ok dX6_readInto_17, sf_iload_n2, stepd_ok dX6_readInto_18, sf_bipush, stepd_ok dX6_readInto_20, jk_at (pc := 20) (off := 33) (t := 53) rfl, jo_at (pc := 20) (off := 33) (t := 53) rfl, sf_if_icmp_gt, stepd_ok dX6_readInto_23, stepd_ok dX6_readInto_24, sf_getfield (P := pr_X6_readInto) ftX6_19, stepd_ok dX6_readInto_27, stepd_ok dX6_readInto_28, sf_getfield (P := pr_X6_readInto) ftX6_15, stepd_ok dX6_readInto_31, jk_at (pc := 31) (off := 22) (t := 53) rfl, jo_at (pc := 31) (off := 22) (t := 53) rfl, sf_if_icmp_ge, stepd_ok dX6_readInto_34, stepd_ok dX6_readInto_35, sf_getfield (P := pr_X6_readInto) ftX6_22, stepd_ok dX6_readInto_38, stepd_ok dX6_readInto_39, jk_at (pc := 39) (off := 14) (t := 53) rfl, jo_at (pc := 39) (off := 14) (t := 53) rfl, sf_if_icmp_ne, stepd_ok dX6_readInto_42, stepd_ok dX6_readInto_43, stepd_ok dX6_readInto_44, sf_inv (P := pr_X6_readInto) ca_X6_readInto_30 rfl, stepd_ok dX6_readInto_47, sf_iinc, stepd_ok dX6_readInto_50, jk_at (pc := 50) (off := -33) (t := 17) rfl, sf_goto, stepd_ok dX6_readInto_53, stepd_ok dX6_readInto_54, stepd_ok dX6_readInto_57, sf_iret1 (P := pr_X6_readInto) rfl rfl, sp_X6_readWord_e, Nat.zero_lt_one, hc, rn_, hn24i, t61, h4, h5, rps, rlen, hend]
        exact hout _
  show G 0 [vr 6 0, vr 1 c, vj] [] σ 0
  refine run hG [17] 60 ?_
  simp only [wpn_s, wpn_0, br_T, br_F, st1, st2, true_and, and_true, ↓reduceIte, if_true, if_false, List.contains_nil, List.contains_cons, Bool.or_false, Bool.or_true, Bool.true_or, Bool.false_or, Bool.false_eq_true, bit_0, bit_1, bit_b, true_or, or_true, or_false, false_or, up_e, up_nc, up_nj, ne_eq, not_false_eq_true, not_true_eq_false, inR_n, inR_m1, bi_RT, br_bi, Nat.reduceAdd, Nat.reduceLT, Nat.reduceLeDiff, Nat.reduceEqDiff, Nat.reduceBEq, Nat.zero_le, Int.reduceAdd, Int.reduceNeg, Int.reduceLE, Int.reduceLT, Int.reduceToNat, Int.reduceNatCast, Int.reduceEq, Int.reduceSub, Int.reduceMul, set_0, set_s, len_c, len_n, nc2_0, nc2_1i, nc2_1r, nc2_1j, nc2_s, rcv_e, take_c, take_z, drop_c, drop_z, rev_c, rev_n, app_c, app_n, tol_s, tol_n, Nat.le_refl, s1i_e, s2i_e, s1r_e, sir_e, siir_e, srir_e, c1_i, c1_r, s1v_e, s2v_e, ldv_0, ldv_s, ldx_0, ldx_s, ldi_0, ldi_s, ldr_0, ldr_s, fg_0_0, fg_0_1, fg_0_2, fg_0_3, fg_0_4, fg_0_5, fg_1_0, fg_1_1, fg_1_2, fg_1_3, fg_1_4, fg_1_5, fg_1_6, fg_1_7, fg_2_0, fg_2_1, fg_2_2, fg_2_3, fg_2_4, fg_2_5, fg_3_0, fg_3_1, fg_4_0, fg_4_1, fg_4_2, fg_4_3, fg_4_4, fg_4_5, fg_5_0, fg_5_1, fg_5_2, fg_5_3, fg_5_4, fg_5_5, fg_5_6, fg_6_0, fg_6_1, fg_6_2, fg_6_3, fg_7_0, fg_7_1, fg_7_2, fg_7_3, fg_7_4, fg_7_5, fg_8_0, fg_8_1, fg_8_2, fg_8_3, fg_8_4, fg_8_5, fg_8_6, fg_8_7, fg_8_8, fg_8_9, fg_8_10, fg_8_11, fg_8_12, fg_8_13, cnt_0, cnt_1, cnt_2, cnt_3, cnt_4, cnt_5, cnt_6, cnt_7, cnt_8, cnt_9, cnt_10, cnt_11, cnt_12, cnt_13, cnt_14, fk, stepd_ok dX6_readInto_0, sf_aload_n0, stepd_ok dX6_readInto_1, sf_iconst, stepd_ok dX6_readInto_2, sf_putfield (P := pr_X6_readInto) ftX6_19, stepd_ok dX6_readInto_5, stepd_ok dX6_readInto_6, stepd_ok dX6_readInto_7, sf_putfield (P := pr_X6_readInto) ftX6_22, stepd_ok dX6_readInto_10, sf_aload_n1, stepd_ok dX6_readInto_11, stepd_ok dX6_readInto_12, sf_putfield (P := pr_X6_readInto) ftX6_25, stepd_ok dX6_readInto_15, stepd_ok dX6_readInto_16, sf_istore_n2, stepd_ok dX6_readInto_17, sf_iload_n2, stepd_ok dX6_readInto_18, sf_bipush, stepd_ok dX6_readInto_20, jk_at (pc := 20) (off := 33) (t := 53) rfl, jo_at (pc := 20) (off := 33) (t := 53) rfl, sf_if_icmp_gt, stepd_ok dX6_readInto_23, stepd_ok dX6_readInto_24, sf_getfield (P := pr_X6_readInto) ftX6_19, stepd_ok dX6_readInto_27, stepd_ok dX6_readInto_28, sf_getfield (P := pr_X6_readInto) ftX6_15, stepd_ok dX6_readInto_31, jk_at (pc := 31) (off := 22) (t := 53) rfl, jo_at (pc := 31) (off := 22) (t := 53) rfl, sf_if_icmp_ge, stepd_ok dX6_readInto_34, stepd_ok dX6_readInto_35, sf_getfield (P := pr_X6_readInto) ftX6_22, stepd_ok dX6_readInto_38, stepd_ok dX6_readInto_39, jk_at (pc := 39) (off := 14) (t := 53) rfl, jo_at (pc := 39) (off := 14) (t := 53) rfl, sf_if_icmp_ne, stepd_ok dX6_readInto_42, stepd_ok dX6_readInto_43, stepd_ok dX6_readInto_44, sf_inv (P := pr_X6_readInto) ca_X6_readInto_30 rfl, stepd_ok dX6_readInto_47, sf_iinc, stepd_ok dX6_readInto_50, jk_at (pc := 50) (off := -33) (t := 17) rfl, sf_goto, stepd_ok dX6_readInto_53, stepd_ok dX6_readInto_54, stepd_ok dX6_readInto_57, sf_iret1 (P := pr_X6_readInto) rfl rfl, sp_X6_readWord_e, Nat.zero_lt_one, hc]
  refine loop 25 0 _ (by omega) (fun i hi => absurd hi (by omega)) (by simp [up3]) (by simp [up3, ps]) (by simp [up3]) (fun i hi => absurd hi (by omega)) (fun c' i k a b d g => by rw [up_k (by omega), up_k (by omega), up_k (by omega)])
theorem cn_X6_readInto (l : Launch) (Γ : Ga) : Cn l Γ yX6_readInto (wsy yX6_readInto cX6_readInto 3 (some .int)) rm_X6_readInto 0 sp_X6_readInto := Cn_of (P := pr_X6_readInto) (own := RX6) (by decide) rfl rfl (by decide) rfl ⟨rfl, rfl⟩ ftX6_ok (List.forall_mem_cons.mpr ⟨callV_of (rc := 6) (cn_X6_readWord l Γ) rfl rfl (List.forall_mem_cons.mpr ⟨wl_X6_30, fun _ h => wm_X6_readWord h⟩) ⟨rfl, by decide, by decide, by decide +kernel⟩ ⟨by decide, by decide⟩, fun _ h => (List.not_mem_nil h).elim⟩) (fun _ h => (List.not_mem_nil h).elim) (fun _ _ _ _ _ _ _ _ _ _ q hq => (List.not_mem_nil hq).elim) sem_X6_readInto
