/-- each box is now as some box was -/
def BoxP (σ σ' : Sto) : Prop := ∀ e : Nat, e < 145 → ∃ o : Nat, o < 145 ∧ (e < 144 → o < 144) ∧ ∀ k : Nat, k < 6 → σ' 0 e k = σ 0 o k
def EntEq (σ σ' : Sto) (e o : Nat) : Prop := (∀ k : Nat, 2 ≤ k → k ≤ 5 → σ' 2 e k = σ 2 o k) ∧ (∀ k : Nat, (k : Int) < σ 2 o 2 → σ' 10 e k = σ 10 o k) ∧ (∀ k : Nat, k < 6 → σ' 0 e k = σ 0 o k)
def CldCp (σ σ' : Sto) (c d : Nat) : Prop := (∀ k : Nat, 1 ≤ k → k ≤ 7 → σ' 1 c k = σ 1 d k) ∧ (∀ i, i < cn_ σ d → EntEq σ σ' (en σ c i) (en σ d i)) ∧ (∀ c' i k : Nat, (c' ≠ 1 ∨ i ≠ c) → ((c' ≠ 2 ∧ c' ≠ 10 ∧ c' ≠ 0) ∨ i < 24 * c ∨ 24 * c + 24 ≤ i) → σ' c' i k = σ c' i k) ∧ BoxP σ σ'
def sp_X1_copyFrom : Spec := fun a σ K KX => ∃ (c : Nat) (d : Nat), a = [vr 1 c, vr 1 d] ∧ (c < 6 ∧ d < 6 ∧ c ≠ d ∧ Phy σ ∧ ClOK σ d ∧ ∀ σ', CldCp σ σ' c d → K none σ')
theorem sp_X1_copyFrom_e {c : Nat} {d : Nat} {σ : Sto} {K : Option AV → Sto → Prop} {KX : Nat → Sto → Prop} : sp_X1_copyFrom [vr 1 c, vr 1 d] σ K KX = (c < 6 ∧ d < 6 ∧ c ≠ d ∧ Phy σ ∧ ClOK σ d ∧ ∀ σ', CldCp σ σ' c d → K none σ') := propext ⟨fun h => by obtain ⟨_, _, h, hb⟩ := h; cases h; exact hb, fun hb => ⟨_, _, rfl, hb⟩⟩
def pr_X1_copyFrom : Par := (ftX1, [(31, (2, 0, 1 + 1, sp_X1_copySettings)), (38, (2, 0, 2 + 1, sp_X2_copyFrom))], [], [], 0, 0, none)
def rm_X1_copyFrom : Room := { frames := 2, cells := 0, slots := 0, locals := 43 }
theorem ca_X1_copyFrom_31 : List.lookup 31 pr_X1_copyFrom.2.1 = some (2, 0, 1 + 1, sp_X1_copySettings) := rfl
theorem ca_X1_copyFrom_38 : List.lookup 38 pr_X1_copyFrom.2.1 = some (2, 0, 2 + 1, sp_X2_copyFrom) := rfl
set_option maxRecDepth 100000 in
set_option maxHeartbeats 4000000 in
theorem sem_X1_copyFrom : Sem pr_X1_copyFrom cX1_copyFrom 3 sp_X1_copyFrom := by
  rintro a σ K KX ⟨c, d, rfl, hc, hd, hne, hP, hC, hK⟩
  refine ⟨by simp [vr, vi, nj], Nat.le_of_ble_eq_true rfl, fun G hG => ?_⟩
  obtain ⟨⟨n0, n1⟩, hE⟩ := hC
  have hne2 := Ne.symm hne
  have rn : inR (σ 1 d 1) := by unfold inR; omega
  have loop : ∀ (n i : Nat) (τ : Sto), (i : Int) + n = σ 1 d 1 → (∀ k : Nat, 1 ≤ k → k ≤ 7 → τ 1 c k = σ 1 d k) → (∀ j, j < i → EntEq σ τ (en σ c j) (en σ d j)) → (∀ c' i k : Nat, (c' ≠ 1 ∨ i ≠ c) → ((c' ≠ 2 ∧ c' ≠ 10 ∧ c' ≠ 0) ∨ i < 24 * c ∨ 24 * c + 24 ≤ i) → τ c' i k = σ c' i k) → BoxP σ τ → G 15 [vr 1 c, vr 1 d, vi i] [] τ 0 := by
    intro n
    induction n with
    | zero =>
      intro i τ hi hs he hf hbx
      have h1 := hs 1 (by omega) (by omega)
      refine run hG [15] 60 ?_
      simp only [wpn_s, wpn_0, br_T, br_F, st1, st2, true_and, and_true, ↓reduceIte, if_true, if_false, List.contains_nil, List.contains_cons, Bool.or_false, Bool.or_true, Bool.true_or, Bool.false_or, Bool.false_eq_true, bit_0, bit_1, bit_b, true_or, or_true, or_false, false_or, up_e, up_nc, up_nj, ne_eq, not_false_eq_true, not_true_eq_false, inR_n, inR_m1, bi_RT, br_bi, Nat.reduceAdd, Nat.reduceLT, Nat.reduceLeDiff, Nat.reduceEqDiff, Nat.reduceBEq, Nat.zero_le, Int.reduceAdd, Int.reduceNeg, Int.reduceLE, Int.reduceLT, Int.reduceToNat, Int.reduceNatCast, Int.reduceEq, Int.reduceSub, Int.reduceMul, set_0, set_s, len_c, len_n, nc2_0, nc2_1i, nc2_1r, nc2_1j, nc2_s, rcv_e, take_c, take_z, drop_c, drop_z, rev_c, rev_n, app_c, app_n, tol_s, tol_n, Nat.le_refl, s1i_e, s2i_e, s1r_e, sir_e, siir_e, srir_e, c1_i, c1_r, s1v_e, s2v_e, ldv_0, ldv_s, ldx_0, ldx_s, ldi_0, ldi_s, ldr_0, ldr_s, fg_0_0, fg_0_1, fg_0_2, fg_0_3, fg_0_4, fg_0_5, fg_1_0, fg_1_1, fg_1_2, fg_1_3, fg_1_4, fg_1_5, fg_1_6, fg_1_7, fg_2_0, fg_2_1, fg_2_2, fg_2_3, fg_2_4, fg_2_5, fg_3_0, fg_3_1, fg_4_0, fg_4_1, fg_4_2, fg_4_3, fg_4_4, fg_4_5, fg_5_0, fg_5_1, fg_5_2, fg_5_3, fg_5_4, fg_5_5, fg_5_6, fg_6_0, fg_6_1, fg_6_2, fg_6_3, fg_7_0, fg_7_1, fg_7_2, fg_7_3, fg_7_4, fg_7_5, fg_8_0, fg_8_1, fg_8_2, fg_8_3, fg_8_4, fg_8_5, fg_8_6, fg_8_7, fg_8_8, fg_8_9, fg_8_10, fg_8_11, fg_8_12, fg_8_13, cnt_0, cnt_1, cnt_2, cnt_3, cnt_4, cnt_5, cnt_6, cnt_7, cnt_8, cnt_9, cnt_10, cnt_11, cnt_12, cnt_13, cnt_14, fk, rd, al_9, al_10, al_11, al_13, al_12_0, al_12_1, al_12_2, al_12_3, al_12_4, al_12_5, al_12_6, al_12_7, al_12_8, al_12_9, al_12_10, al_12_11, stepd_ok dX1_copyFrom_0, sf_aload_n0, stepd_ok dX1_copyFrom_1, sf_aload_n1, stepd_ok dX1_copyFrom_2, sf_inv (P := pr_X1_copyFrom) ca_X1_copyFrom_31 rfl, stepd_ok dX1_copyFrom_5, stepd_ok dX1_copyFrom_6, stepd_ok dX1_copyFrom_7, sf_getfield (P := pr_X1_copyFrom) ftX1_35, stepd_ok dX1_copyFrom_10, sf_putfield (P := pr_X1_copyFrom) ftX1_35, stepd_ok dX1_copyFrom_13, sf_iconst, stepd_ok dX1_copyFrom_14, sf_istore_n2, stepd_ok dX1_copyFrom_15, sf_iload_n2, stepd_ok dX1_copyFrom_16, stepd_ok dX1_copyFrom_17, stepd_ok dX1_copyFrom_20, jk_at (pc := 20) (off := 24) (t := 44) rfl, jo_at (pc := 20) (off := 24) (t := 44) rfl, sf_if_icmp_ge, stepd_ok dX1_copyFrom_23, stepd_ok dX1_copyFrom_24, sf_getfield (P := pr_X1_copyFrom) ftX1_11, stepd_ok dX1_copyFrom_27, stepd_ok dX1_copyFrom_28, sf_aaload, stepd_ok dX1_copyFrom_29, stepd_ok dX1_copyFrom_30, stepd_ok dX1_copyFrom_33, stepd_ok dX1_copyFrom_34, stepd_ok dX1_copyFrom_35, sf_inv (P := pr_X1_copyFrom) ca_X1_copyFrom_38 rfl, stepd_ok dX1_copyFrom_38, sf_iinc, stepd_ok dX1_copyFrom_41, jk_at (pc := 41) (off := -26) (t := 15) rfl, sf_goto, stepd_ok dX1_copyFrom_44, sf_vret (P := pr_X1_copyFrom) rfl rfl, sp_X1_copySettings_e, sp_X2_copyFrom_e, hc, hd, rn, h1]
      exact ⟨by unfold inR; omega, fun h => absurd h (by omega), fun _ => hK _ ⟨hs, fun j hj => he j (by unfold cn_ at hj; omega), hf, hbx⟩⟩
    | succ n ih =>
      intro i τ hi hs he hf hbx
      have h1 := hs 1 (by omega) (by omega)
      have hi24 : (i : Int) < 24 := by omega
      have hi0 : (0 : Int) ≤ i := by omega
      obtain ⟨ec, ec1, ec2⟩ := en_lt hP hc (show i < 24 by omega)
      obtain ⟨ed, ed1, ed2⟩ := en_lt hP hd (show i < 24 by omega)
      have h9 : ∀ c' k, τ 9 c' k = σ 9 c' k := fun c' k => hf 9 c' k (Or.inl (by omega)) (Or.inl (by omega))
      have fd : ∀ c' k, c' = 2 ∨ c' = 10 ∨ c' = 0 → τ c' (en σ d i) k = σ c' (en σ d i) k := fun c' k h => hf c' _ k (Or.inl (by omega)) (Or.inr (by omega))
      obtain ⟨q1, q2, -⟩ := hE i (by unfold cn_; omega)
      have hb := (hP.1 (en σ d i) (by omega)).2
      unfold en at ec ec1 ec2 ed ed1 ed2 fd q1 q2 hb
      have e1 := fd 2 2 (Or.inl rfl)
      have e2 := fd 0 0 (Or.inr (Or.inr rfl))
      have e3 := fd 0 1 (Or.inr (Or.inr rfl))
      have q3 := q1.1
      have q4 := q1.2
      have q0 : 0 ≤ σ 2 (σ 9 d i).toNat 2 := by omega
      have hcd : (σ 9 c i).toNat ≠ (σ 9 d i).toNat := by omega
      have b1 := hb.1
      have b2 := hb.2
      refine run hG [15] 60 ?_
      simp only [wpn_s, wpn_0, br_T, br_F, st1, st2, true_and, and_true, ↓reduceIte, if_true, if_false, List.contains_nil, List.contains_cons, Bool.or_false, Bool.or_true, Bool.true_or, Bool.false_or, Bool.false_eq_true, bit_0, bit_1, bit_b, true_or, or_true, or_false, false_or, up_e, up_nc, up_nj, ne_eq, not_false_eq_true, not_true_eq_false, inR_n, inR_m1, bi_RT, br_bi, Nat.reduceAdd, Nat.reduceLT, Nat.reduceLeDiff, Nat.reduceEqDiff, Nat.reduceBEq, Nat.zero_le, Int.reduceAdd, Int.reduceNeg, Int.reduceLE, Int.reduceLT, Int.reduceToNat, Int.reduceNatCast, Int.reduceEq, Int.reduceSub, Int.reduceMul, set_0, set_s, len_c, len_n, nc2_0, nc2_1i, nc2_1r, nc2_1j, nc2_s, rcv_e, take_c, take_z, drop_c, drop_z, rev_c, rev_n, app_c, app_n, tol_s, tol_n, Nat.le_refl, s1i_e, s2i_e, s1r_e, sir_e, siir_e, srir_e, c1_i, c1_r, s1v_e, s2v_e, ldv_0, ldv_s, ldx_0, ldx_s, ldi_0, ldi_s, ldr_0, ldr_s, fg_0_0, fg_0_1, fg_0_2, fg_0_3, fg_0_4, fg_0_5, fg_1_0, fg_1_1, fg_1_2, fg_1_3, fg_1_4, fg_1_5, fg_1_6, fg_1_7, fg_2_0, fg_2_1, fg_2_2, fg_2_3, fg_2_4, fg_2_5, fg_3_0, fg_3_1, fg_4_0, fg_4_1, fg_4_2, fg_4_3, fg_4_4, fg_4_5, fg_5_0, fg_5_1, fg_5_2, fg_5_3, fg_5_4, fg_5_5, fg_5_6, fg_6_0, fg_6_1, fg_6_2, fg_6_3, fg_7_0, fg_7_1, fg_7_2, fg_7_3, fg_7_4, fg_7_5, fg_8_0, fg_8_1, fg_8_2, fg_8_3, fg_8_4, fg_8_5, fg_8_6, fg_8_7, fg_8_8, fg_8_9, fg_8_10, fg_8_11, fg_8_12, fg_8_13, cnt_0, cnt_1, cnt_2, cnt_3, cnt_4, cnt_5, cnt_6, cnt_7, cnt_8, cnt_9, cnt_10, cnt_11, cnt_12, cnt_13, cnt_14, fk, rd, al_9, al_10, al_11, al_13, al_12_0, al_12_1, al_12_2, al_12_3, al_12_4, al_12_5, al_12_6, al_12_7, al_12_8, al_12_9, al_12_10, al_12_11, stepd_ok dX1_copyFrom_0, sf_aload_n0, stepd_ok dX1_copyFrom_1, sf_aload_n1, stepd_ok dX1_copyFrom_2, sf_inv (P := pr_X1_copyFrom) ca_X1_copyFrom_31 rfl, stepd_ok dX1_copyFrom_5, stepd_ok dX1_copyFrom_6, stepd_ok dX1_copyFrom_7, sf_getfield (P := pr_X1_copyFrom) ftX1_35, stepd_ok dX1_copyFrom_10, sf_putfield (P := pr_X1_copyFrom) ftX1_35, stepd_ok dX1_copyFrom_13, sf_iconst, stepd_ok dX1_copyFrom_14, sf_istore_n2, stepd_ok dX1_copyFrom_15, sf_iload_n2, stepd_ok dX1_copyFrom_16, stepd_ok dX1_copyFrom_17, stepd_ok dX1_copyFrom_20, jk_at (pc := 20) (off := 24) (t := 44) rfl, jo_at (pc := 20) (off := 24) (t := 44) rfl, sf_if_icmp_ge, stepd_ok dX1_copyFrom_23, stepd_ok dX1_copyFrom_24, sf_getfield (P := pr_X1_copyFrom) ftX1_11, stepd_ok dX1_copyFrom_27, stepd_ok dX1_copyFrom_28, sf_aaload, stepd_ok dX1_copyFrom_29, stepd_ok dX1_copyFrom_30, stepd_ok dX1_copyFrom_33, stepd_ok dX1_copyFrom_34, stepd_ok dX1_copyFrom_35, sf_inv (P := pr_X1_copyFrom) ca_X1_copyFrom_38 rfl, stepd_ok dX1_copyFrom_38, sf_iinc, stepd_ok dX1_copyFrom_41, jk_at (pc := 41) (off := -26) (t := 15) rfl, sf_goto, stepd_ok dX1_copyFrom_44, sf_vret (P := pr_X1_copyFrom) rfl rfl, sp_X1_copySettings_e, sp_X2_copyFrom_e, hc, hd, rn, h1, hi24, hi0, h9, Int.toNat_natCast, ec, ed, e1, e2, e3, q0, q4, hcd, b1, b2]
      refine ⟨by unfold inR; omega, fun _ => fun τ' hcp => ?_, fun h => absurd h (by omega)⟩
      obtain ⟨t1, t2, t3, t4⟩ := hcp
      refine ih (i + 1) τ' (by omega) (fun k k1 k7 => ?_) (fun j hj => ?_) (fun c' i' k h1' h2' => ?_) (fun e he => ?_)
      · rw [t4 1 c k (Or.inr (by omega))]; exact hs k k1 k7
      · rcases Nat.lt_succ_iff_lt_or_eq.mp hj with h | h
        · have hjc := en_lt hP hc (show j < 24 by omega)
          have hji : en σ c j ≠ (σ 9 c i).toNat := by
            intro e
            have g1 := hP.2.1 c hc j (by omega)
            have g2 := hP.2.1 c hc i (by omega)
            have := hP.2.2.1 c hc j (by omega) i (by omega) (by unfold en at e; omega)
            omega
          obtain ⟨u1, u2, u3⟩ := he j h
          exact ⟨fun k k1 k2 => by rw [t4 _ _ _ (Or.inl hji)]; exact u1 k k1 k2, fun k hk => by rw [t4 _ _ _ (Or.inl hji)]; exact u2 k hk, fun k hk => by rw [t4 _ _ _ (Or.inl hji)]; exact u3 k hk⟩
        · subst h
          exact ⟨fun k k1 k2 => (t1 k k1 k2).trans (fd 2 k (Or.inl rfl)), fun k hk => (t2 k (by rw [e1]; exact hk)).trans (fd 10 k (Or.inr (Or.inl rfl))), fun k hk => (t3 k hk).trans (fd 0 k (Or.inr (Or.inr rfl)))⟩
      · rw [t4 c' i' k (by omega)]; exact hf c' i' k h1' h2'
      · by_cases q : e = (σ 9 c i).toNat
        · obtain ⟨o, o1, o2, o3⟩ := hbx (σ 9 d i).toNat (by omega)
          exact ⟨o, o1, fun _ => o2 ed, fun k hk => by rw [q, t3 k hk]; exact o3 k hk⟩
        · obtain ⟨o, o1, o2, o3⟩ := hbx e he
          exact ⟨o, o1, o2, fun k hk => by rw [t4 0 e k (Or.inl q)]; exact o3 k hk⟩
  show G 0 [vr 1 c, vr 1 d, vj] [] σ 0
  refine run hG [15] 60 ?_
  simp only [wpn_s, wpn_0, br_T, br_F, st1, st2, true_and, and_true, ↓reduceIte, if_true, if_false, List.contains_nil, List.contains_cons, Bool.or_false, Bool.or_true, Bool.true_or, Bool.false_or, Bool.false_eq_true, bit_0, bit_1, bit_b, true_or, or_true, or_false, false_or, up_e, up_nc, up_nj, ne_eq, not_false_eq_true, not_true_eq_false, inR_n, inR_m1, bi_RT, br_bi, Nat.reduceAdd, Nat.reduceLT, Nat.reduceLeDiff, Nat.reduceEqDiff, Nat.reduceBEq, Nat.zero_le, Int.reduceAdd, Int.reduceNeg, Int.reduceLE, Int.reduceLT, Int.reduceToNat, Int.reduceNatCast, Int.reduceEq, Int.reduceSub, Int.reduceMul, set_0, set_s, len_c, len_n, nc2_0, nc2_1i, nc2_1r, nc2_1j, nc2_s, rcv_e, take_c, take_z, drop_c, drop_z, rev_c, rev_n, app_c, app_n, tol_s, tol_n, Nat.le_refl, s1i_e, s2i_e, s1r_e, sir_e, siir_e, srir_e, c1_i, c1_r, s1v_e, s2v_e, ldv_0, ldv_s, ldx_0, ldx_s, ldi_0, ldi_s, ldr_0, ldr_s, fg_0_0, fg_0_1, fg_0_2, fg_0_3, fg_0_4, fg_0_5, fg_1_0, fg_1_1, fg_1_2, fg_1_3, fg_1_4, fg_1_5, fg_1_6, fg_1_7, fg_2_0, fg_2_1, fg_2_2, fg_2_3, fg_2_4, fg_2_5, fg_3_0, fg_3_1, fg_4_0, fg_4_1, fg_4_2, fg_4_3, fg_4_4, fg_4_5, fg_5_0, fg_5_1, fg_5_2, fg_5_3, fg_5_4, fg_5_5, fg_5_6, fg_6_0, fg_6_1, fg_6_2, fg_6_3, fg_7_0, fg_7_1, fg_7_2, fg_7_3, fg_7_4, fg_7_5, fg_8_0, fg_8_1, fg_8_2, fg_8_3, fg_8_4, fg_8_5, fg_8_6, fg_8_7, fg_8_8, fg_8_9, fg_8_10, fg_8_11, fg_8_12, fg_8_13, cnt_0, cnt_1, cnt_2, cnt_3, cnt_4, cnt_5, cnt_6, cnt_7, cnt_8, cnt_9, cnt_10, cnt_11, cnt_12, cnt_13, cnt_14, fk, rd, al_9, al_10, al_11, al_13, al_12_0, al_12_1, al_12_2, al_12_3, al_12_4, al_12_5, al_12_6, al_12_7, al_12_8, al_12_9, al_12_10, al_12_11, stepd_ok dX1_copyFrom_0, sf_aload_n0, stepd_ok dX1_copyFrom_1, sf_aload_n1, stepd_ok dX1_copyFrom_2, sf_inv (P := pr_X1_copyFrom) ca_X1_copyFrom_31 rfl, stepd_ok dX1_copyFrom_5, stepd_ok dX1_copyFrom_6, stepd_ok dX1_copyFrom_7, sf_getfield (P := pr_X1_copyFrom) ftX1_35, stepd_ok dX1_copyFrom_10, sf_putfield (P := pr_X1_copyFrom) ftX1_35, stepd_ok dX1_copyFrom_13, sf_iconst, stepd_ok dX1_copyFrom_14, sf_istore_n2, stepd_ok dX1_copyFrom_15, sf_iload_n2, stepd_ok dX1_copyFrom_16, stepd_ok dX1_copyFrom_17, stepd_ok dX1_copyFrom_20, jk_at (pc := 20) (off := 24) (t := 44) rfl, jo_at (pc := 20) (off := 24) (t := 44) rfl, sf_if_icmp_ge, stepd_ok dX1_copyFrom_23, stepd_ok dX1_copyFrom_24, sf_getfield (P := pr_X1_copyFrom) ftX1_11, stepd_ok dX1_copyFrom_27, stepd_ok dX1_copyFrom_28, sf_aaload, stepd_ok dX1_copyFrom_29, stepd_ok dX1_copyFrom_30, stepd_ok dX1_copyFrom_33, stepd_ok dX1_copyFrom_34, stepd_ok dX1_copyFrom_35, sf_inv (P := pr_X1_copyFrom) ca_X1_copyFrom_38 rfl, stepd_ok dX1_copyFrom_38, sf_iinc, stepd_ok dX1_copyFrom_41, jk_at (pc := 41) (off := -26) (t := 15) rfl, sf_goto, stepd_ok dX1_copyFrom_44, sf_vret (P := pr_X1_copyFrom) rfl rfl, sp_X1_copySettings_e, sp_X2_copyFrom_e, hc, hd, hne]
  intro τ hs hf
  have hcnt : τ 1 d 1 = σ 1 d 1 := hf 1 d 1 (Or.inr (Or.inl hne2))
  refine loop (cn_ σ d) 0 _ (by unfold cn_; omega) (fun k k1 k7 => ?_) (fun j hj => absurd hj (by omega)) (fun c' i k h1 h2 => ?_) (fun e he => ⟨e, he, id, fun k _ => ?_⟩)
  · by_cases hk : k = 1
    · subst hk; rw [up_e, hcnt]
    · rw [up_nj hk]; exact hs k (by omega) k7
  · rw [up_k (by omega)]; exact hf c' i k (by omega)
  · rw [up_nc (by omega)]; exact hf 0 e k (by omega)
theorem cn_X1_copyFrom (l : Launch) (Γ : Ga) : Cn l Γ yX1_copyFrom (wsy yX1_copyFrom cX1_copyFrom 3 none) rm_X1_copyFrom 0 sp_X1_copyFrom := Cn_of (P := pr_X1_copyFrom) (own := RX1) (by decide) rfl rfl (by decide) rfl ⟨rfl, rfl⟩ ftX1_ok (List.forall_mem_cons.mpr ⟨callV_of (rc := 1) (cn_X1_copySettings l Γ) rfl rfl (List.forall_mem_cons.mpr ⟨wl_X1_31, fun _ h => wm_X1_copySettings h⟩) ⟨rfl, by decide, by decide, by decide +kernel⟩ ⟨by decide, by decide⟩, List.forall_mem_cons.mpr ⟨callV_of (rc := 2) (cn_X2_copyFrom l Γ) rfl rfl (List.forall_mem_cons.mpr ⟨wl_X1_38, fun _ h => wm_X2_copyFrom h⟩) ⟨rfl, by decide, by decide, by decide +kernel⟩ ⟨by decide, by decide⟩, fun _ h => (List.not_mem_nil h).elim⟩⟩) (fun _ h => (List.not_mem_nil h).elim) (fun _ _ _ _ _ _ _ _ _ _ q hq => (List.not_mem_nil hq).elim) sem_X1_copyFrom
def sp_X1_takeOut : Spec := fun a σ K KX => ∃ (c : Nat) (w : Int), a = [vr 1 c, vi w] ∧ (c < 6 ∧ Phy σ ∧ 0 ≤ w ∧ w < σ 1 c 1 ∧ σ 1 c 1 ≤ 24 ∧ ∀ σ', (σ' 1 c 1 = σ 1 c 1 - 1) → (∀ i : Nat, (i : Int) < σ 1 c 1 - 1 → σ' 9 c i = if (i : Int) < w then σ 9 c i else σ 9 c (i + 1)) → (∀ i : Nat, (i : Int) = σ 1 c 1 - 1 → σ' 9 c i = σ 9 c w.toNat) → (∀ i : Nat, σ 1 c 1 ≤ (i : Int) → σ' 9 c i = σ 9 c i) → (∀ c' i k : Nat, (c' ≠ 1 ∨ i ≠ c ∨ k ≠ 1) → (c' ≠ 9 ∨ i ≠ c) → σ' c' i k = σ c' i k) → K none σ')
theorem sp_X1_takeOut_e {c : Nat} {w : Int} {σ : Sto} {K : Option AV → Sto → Prop} {KX : Nat → Sto → Prop} : sp_X1_takeOut [vr 1 c, vi w] σ K KX = (c < 6 ∧ Phy σ ∧ 0 ≤ w ∧ w < σ 1 c 1 ∧ σ 1 c 1 ≤ 24 ∧ ∀ σ', (σ' 1 c 1 = σ 1 c 1 - 1) → (∀ i : Nat, (i : Int) < σ 1 c 1 - 1 → σ' 9 c i = if (i : Int) < w then σ 9 c i else σ 9 c (i + 1)) → (∀ i : Nat, (i : Int) = σ 1 c 1 - 1 → σ' 9 c i = σ 9 c w.toNat) → (∀ i : Nat, σ 1 c 1 ≤ (i : Int) → σ' 9 c i = σ 9 c i) → (∀ c' i k : Nat, (c' ≠ 1 ∨ i ≠ c ∨ k ≠ 1) → (c' ≠ 9 ∨ i ≠ c) → σ' c' i k = σ c' i k) → K none σ') := propext ⟨fun h => by obtain ⟨_, _, h, hb⟩ := h; cases h; exact hb, fun hb => ⟨_, _, rfl, hb⟩⟩
def pr_X1_takeOut : Par := (ftX1, [], [], [], 0, 0, none)
def rm_X1_takeOut : Room := { frames := 0, cells := 0, slots := 0, locals := 0 }
set_option maxRecDepth 100000 in
set_option maxHeartbeats 4000000 in
theorem sem_X1_takeOut : Sem pr_X1_takeOut cX1_takeOut 4 sp_X1_takeOut := by
  rintro a σ K KX ⟨c, w, rfl, hc, hP, h0, h1, n1, hK⟩
  refine ⟨by simp [vr, vi, nj], Nat.le_of_ble_eq_true rfl, fun G hG => ?_⟩
  have rn : inR (σ 1 c 1) := by unfold inR; omega
  have ew : (σ 9 c w.toNat).toNat < 144 := (en_lt hP hc (by omega)).1
  have hw24 : w < 24 := by omega
  have g1 := (hP.2.1 c hc w.toNat (by omega)).1
  have loop : ∀ (n i : Nat) (τ : Sto), (i : Int) + n = σ 1 c 1 → w < i → (∀ j : Nat, (j : Int) < i - 1 → τ 9 c j = if (j : Int) < w then σ 9 c j else σ 9 c (j + 1)) → (∀ j : Nat, (i : Int) - 1 ≤ j → τ 9 c j = σ 9 c j) → (∀ c' i k : Nat, (c' ≠ 9 ∨ i ≠ c) → τ c' i k = σ c' i k) → G 11 [vr 1 c, vi w, vr 2 (σ 9 c w.toNat).toNat, vi i] [] τ 0 := by
    intro n
    induction n with
    | zero =>
      intro i τ hi hwi hl hr hf
      have f1 := hf 1 c 1 (Or.inl (by omega))
      have hm : σ 1 c 1 - 1 < 24 := by omega
      have hm0 : 0 ≤ σ 1 c 1 - 1 := by omega
      refine run hG [11] 60 ?_
      simp only [wpn_s, wpn_0, br_T, br_F, st1, st2, true_and, and_true, ↓reduceIte, if_true, if_false, List.contains_nil, List.contains_cons, Bool.or_false, Bool.or_true, Bool.true_or, Bool.false_or, Bool.false_eq_true, bit_0, bit_1, bit_b, true_or, or_true, or_false, false_or, up_e, up_nc, up_nj, ne_eq, not_false_eq_true, not_true_eq_false, inR_n, inR_m1, bi_RT, br_bi, Nat.reduceAdd, Nat.reduceLT, Nat.reduceLeDiff, Nat.reduceEqDiff, Nat.reduceBEq, Nat.zero_le, Int.reduceAdd, Int.reduceNeg, Int.reduceLE, Int.reduceLT, Int.reduceToNat, Int.reduceNatCast, Int.reduceEq, Int.reduceSub, Int.reduceMul, set_0, set_s, len_c, len_n, nc2_0, nc2_1i, nc2_1r, nc2_1j, nc2_s, s1i_e, s2i_e, s1r_e, sir_e, siir_e, srir_e, c1_i, c1_r, s1v_e, s2v_e, ldv_0, ldv_s, ldx_0, ldx_s, ldi_0, ldi_s, ldr_0, ldr_s, fg_0_0, fg_0_1, fg_0_2, fg_0_3, fg_0_4, fg_0_5, fg_1_0, fg_1_1, fg_1_2, fg_1_3, fg_1_4, fg_1_5, fg_1_6, fg_1_7, fg_2_0, fg_2_1, fg_2_2, fg_2_3, fg_2_4, fg_2_5, fg_3_0, fg_3_1, fg_4_0, fg_4_1, fg_4_2, fg_4_3, fg_4_4, fg_4_5, fg_5_0, fg_5_1, fg_5_2, fg_5_3, fg_5_4, fg_5_5, fg_5_6, fg_6_0, fg_6_1, fg_6_2, fg_6_3, fg_7_0, fg_7_1, fg_7_2, fg_7_3, fg_7_4, fg_7_5, fg_8_0, fg_8_1, fg_8_2, fg_8_3, fg_8_4, fg_8_5, fg_8_6, fg_8_7, fg_8_8, fg_8_9, fg_8_10, fg_8_11, fg_8_12, fg_8_13, cnt_0, cnt_1, cnt_2, cnt_3, cnt_4, cnt_5, cnt_6, cnt_7, cnt_8, cnt_9, cnt_10, cnt_11, cnt_12, cnt_13, cnt_14, fk, rd, al_9, al_10, al_11, al_13, al_12_0, al_12_1, al_12_2, al_12_3, al_12_4, al_12_5, al_12_6, al_12_7, al_12_8, al_12_9, al_12_10, al_12_11, stepd_ok dX1_takeOut_0, sf_aload_n0, stepd_ok dX1_takeOut_1, sf_getfield (P := pr_X1_takeOut) ftX1_11, stepd_ok dX1_takeOut_4, sf_iload_n1, stepd_ok dX1_takeOut_5, sf_aaload, stepd_ok dX1_takeOut_6, sf_astore_n2, stepd_ok dX1_takeOut_7, stepd_ok dX1_takeOut_8, sf_iconst, stepd_ok dX1_takeOut_9, sf_iadd, stepd_ok dX1_takeOut_10, sf_istore_n3, stepd_ok dX1_takeOut_11, sf_iload_n3, stepd_ok dX1_takeOut_12, stepd_ok dX1_takeOut_13, sf_getfield (P := pr_X1_takeOut) ftX1_35, stepd_ok dX1_takeOut_16, jk_at (pc := 16) (off := 23) (t := 39) rfl, jo_at (pc := 16) (off := 23) (t := 39) rfl, sf_if_icmp_ge, stepd_ok dX1_takeOut_19, stepd_ok dX1_takeOut_20, stepd_ok dX1_takeOut_23, stepd_ok dX1_takeOut_24, stepd_ok dX1_takeOut_25, sf_isub, stepd_ok dX1_takeOut_26, stepd_ok dX1_takeOut_27, stepd_ok dX1_takeOut_30, stepd_ok dX1_takeOut_31, stepd_ok dX1_takeOut_32, sf_aastore, stepd_ok dX1_takeOut_33, sf_iinc, stepd_ok dX1_takeOut_36, jk_at (pc := 36) (off := -25) (t := 11) rfl, sf_goto, stepd_ok dX1_takeOut_39, stepd_ok dX1_takeOut_40, sf_dup, stepd_ok dX1_takeOut_41, stepd_ok dX1_takeOut_44, stepd_ok dX1_takeOut_45, stepd_ok dX1_takeOut_46, sf_putfield (P := pr_X1_takeOut) ftX1_35, stepd_ok dX1_takeOut_49, stepd_ok dX1_takeOut_50, stepd_ok dX1_takeOut_53, stepd_ok dX1_takeOut_54, stepd_ok dX1_takeOut_57, sf_aload_n2, stepd_ok dX1_takeOut_58, stepd_ok dX1_takeOut_59, sf_vret (P := pr_X1_takeOut) rfl rfl, hc, rn, f1, ew, hm, hm0]
      refine ⟨by unfold inR; omega, fun h => absurd h (by omega), fun _ => hK _ ?_ ?_ ?_ ?_ ?_⟩
      · simp [up3]
      · intro j hj
        rw [up_nj (by omega), up_nc (by omega)]; exact hl j (by omega)
      · intro j hj
        rw [show (σ 1 c 1 - 1).toNat = j by omega, up_e]; omega
      · intro j hj
        rw [up_nj (by omega), up_nc (by omega)]; exact hr j (by omega)
      · intro c' i' k ha hb
        rw [up_k (by omega), up_k (by omega)]; exact hf c' i' k hb
    | succ n ih =>
      intro i τ hi hwi hl hr hf
      have f1 := hf 1 c 1 (Or.inl (by omega))
      have hi24 : (i : Int) < 24 := by omega
      have hi0 : (0 : Int) ≤ i := by omega
      have hj24 : (i : Int) - 1 < 24 := by omega
      have hj0 : (0 : Int) ≤ i - 1 := by omega
      have h9 := hr i (by omega)
      have ei := (en_lt hP hc (show i < 24 by omega)).1
      have g2 := (hP.2.1 c hc i (by omega)).1
      unfold en at ei
      refine run hG [11] 60 ?_
      simp only [wpn_s, wpn_0, br_T, br_F, st1, st2, true_and, and_true, ↓reduceIte, if_true, if_false, List.contains_nil, List.contains_cons, Bool.or_false, Bool.or_true, Bool.true_or, Bool.false_or, Bool.false_eq_true, bit_0, bit_1, bit_b, true_or, or_true, or_false, false_or, up_e, up_nc, up_nj, ne_eq, not_false_eq_true, not_true_eq_false, inR_n, inR_m1, bi_RT, br_bi, Nat.reduceAdd, Nat.reduceLT, Nat.reduceLeDiff, Nat.reduceEqDiff, Nat.reduceBEq, Nat.zero_le, Int.reduceAdd, Int.reduceNeg, Int.reduceLE, Int.reduceLT, Int.reduceToNat, Int.reduceNatCast, Int.reduceEq, Int.reduceSub, Int.reduceMul, set_0, set_s, len_c, len_n, nc2_0, nc2_1i, nc2_1r, nc2_1j, nc2_s, s1i_e, s2i_e, s1r_e, sir_e, siir_e, srir_e, c1_i, c1_r, s1v_e, s2v_e, ldv_0, ldv_s, ldx_0, ldx_s, ldi_0, ldi_s, ldr_0, ldr_s, fg_0_0, fg_0_1, fg_0_2, fg_0_3, fg_0_4, fg_0_5, fg_1_0, fg_1_1, fg_1_2, fg_1_3, fg_1_4, fg_1_5, fg_1_6, fg_1_7, fg_2_0, fg_2_1, fg_2_2, fg_2_3, fg_2_4, fg_2_5, fg_3_0, fg_3_1, fg_4_0, fg_4_1, fg_4_2, fg_4_3, fg_4_4, fg_4_5, fg_5_0, fg_5_1, fg_5_2, fg_5_3, fg_5_4, fg_5_5, fg_5_6, fg_6_0, fg_6_1, fg_6_2, fg_6_3, fg_7_0, fg_7_1, fg_7_2, fg_7_3, fg_7_4, fg_7_5, fg_8_0, fg_8_1, fg_8_2, fg_8_3, fg_8_4, fg_8_5, fg_8_6, fg_8_7, fg_8_8, fg_8_9, fg_8_10, fg_8_11, fg_8_12, fg_8_13, cnt_0, cnt_1, cnt_2, cnt_3, cnt_4, cnt_5, cnt_6, cnt_7, cnt_8, cnt_9, cnt_10, cnt_11, cnt_12, cnt_13, cnt_14, fk, rd, al_9, al_10, al_11, al_13, al_12_0, al_12_1, al_12_2, al_12_3, al_12_4, al_12_5, al_12_6, al_12_7, al_12_8, al_12_9, al_12_10, al_12_11, stepd_ok dX1_takeOut_0, sf_aload_n0, stepd_ok dX1_takeOut_1, sf_getfield (P := pr_X1_takeOut) ftX1_11, stepd_ok dX1_takeOut_4, sf_iload_n1, stepd_ok dX1_takeOut_5, sf_aaload, stepd_ok dX1_takeOut_6, sf_astore_n2, stepd_ok dX1_takeOut_7, stepd_ok dX1_takeOut_8, sf_iconst, stepd_ok dX1_takeOut_9, sf_iadd, stepd_ok dX1_takeOut_10, sf_istore_n3, stepd_ok dX1_takeOut_11, sf_iload_n3, stepd_ok dX1_takeOut_12, stepd_ok dX1_takeOut_13, sf_getfield (P := pr_X1_takeOut) ftX1_35, stepd_ok dX1_takeOut_16, jk_at (pc := 16) (off := 23) (t := 39) rfl, jo_at (pc := 16) (off := 23) (t := 39) rfl, sf_if_icmp_ge, stepd_ok dX1_takeOut_19, stepd_ok dX1_takeOut_20, stepd_ok dX1_takeOut_23, stepd_ok dX1_takeOut_24, stepd_ok dX1_takeOut_25, sf_isub, stepd_ok dX1_takeOut_26, stepd_ok dX1_takeOut_27, stepd_ok dX1_takeOut_30, stepd_ok dX1_takeOut_31, stepd_ok dX1_takeOut_32, sf_aastore, stepd_ok dX1_takeOut_33, sf_iinc, stepd_ok dX1_takeOut_36, jk_at (pc := 36) (off := -25) (t := 11) rfl, sf_goto, stepd_ok dX1_takeOut_39, stepd_ok dX1_takeOut_40, sf_dup, stepd_ok dX1_takeOut_41, stepd_ok dX1_takeOut_44, stepd_ok dX1_takeOut_45, stepd_ok dX1_takeOut_46, sf_putfield (P := pr_X1_takeOut) ftX1_35, stepd_ok dX1_takeOut_49, stepd_ok dX1_takeOut_50, stepd_ok dX1_takeOut_53, stepd_ok dX1_takeOut_54, stepd_ok dX1_takeOut_57, sf_aload_n2, stepd_ok dX1_takeOut_58, stepd_ok dX1_takeOut_59, sf_vret (P := pr_X1_takeOut) rfl rfl, hc, rn, f1, ew, hi24, hi0, hj24, hj0, Int.toNat_natCast, h9, ei]
      refine ⟨by unfold inR; omega, fun _ => ih (i + 1) _ (by omega) (by omega) (fun j hj => ?_) (fun j hj => ?_) (fun c' i' k h => ?_), fun h => absurd h (by omega)⟩
      · by_cases hji : j = i - 1
        · subst hji
          rw [show ((i : Int) - 1).toNat = i - 1 by omega, up_e, if_neg (by omega), show i - 1 + 1 = i by omega]; omega
        · rw [up_nj (by omega)]; exact hl j (by omega)
      · rw [up_nj (by omega)]; exact hr j (by omega)
      · rw [up_k (by omega)]; exact hf c' i' k h
  show G 0 [vr 1 c, vi w, vj, vj] [] σ 0
  refine run hG [11] 60 ?_
  simp only [wpn_s, wpn_0, br_T, br_F, st1, st2, true_and, and_true, ↓reduceIte, if_true, if_false, List.contains_nil, List.contains_cons, Bool.or_false, Bool.or_true, Bool.true_or, Bool.false_or, Bool.false_eq_true, bit_0, bit_1, bit_b, true_or, or_true, or_false, false_or, up_e, up_nc, up_nj, ne_eq, not_false_eq_true, not_true_eq_false, inR_n, inR_m1, bi_RT, br_bi, Nat.reduceAdd, Nat.reduceLT, Nat.reduceLeDiff, Nat.reduceEqDiff, Nat.reduceBEq, Nat.zero_le, Int.reduceAdd, Int.reduceNeg, Int.reduceLE, Int.reduceLT, Int.reduceToNat, Int.reduceNatCast, Int.reduceEq, Int.reduceSub, Int.reduceMul, set_0, set_s, len_c, len_n, nc2_0, nc2_1i, nc2_1r, nc2_1j, nc2_s, s1i_e, s2i_e, s1r_e, sir_e, siir_e, srir_e, c1_i, c1_r, s1v_e, s2v_e, ldv_0, ldv_s, ldx_0, ldx_s, ldi_0, ldi_s, ldr_0, ldr_s, fg_0_0, fg_0_1, fg_0_2, fg_0_3, fg_0_4, fg_0_5, fg_1_0, fg_1_1, fg_1_2, fg_1_3, fg_1_4, fg_1_5, fg_1_6, fg_1_7, fg_2_0, fg_2_1, fg_2_2, fg_2_3, fg_2_4, fg_2_5, fg_3_0, fg_3_1, fg_4_0, fg_4_1, fg_4_2, fg_4_3, fg_4_4, fg_4_5, fg_5_0, fg_5_1, fg_5_2, fg_5_3, fg_5_4, fg_5_5, fg_5_6, fg_6_0, fg_6_1, fg_6_2, fg_6_3, fg_7_0, fg_7_1, fg_7_2, fg_7_3, fg_7_4, fg_7_5, fg_8_0, fg_8_1, fg_8_2, fg_8_3, fg_8_4, fg_8_5, fg_8_6, fg_8_7, fg_8_8, fg_8_9, fg_8_10, fg_8_11, fg_8_12, fg_8_13, cnt_0, cnt_1, cnt_2, cnt_3, cnt_4, cnt_5, cnt_6, cnt_7, cnt_8, cnt_9, cnt_10, cnt_11, cnt_12, cnt_13, cnt_14, fk, rd, al_9, al_10, al_11, al_13, al_12_0, al_12_1, al_12_2, al_12_3, al_12_4, al_12_5, al_12_6, al_12_7, al_12_8, al_12_9, al_12_10, al_12_11, stepd_ok dX1_takeOut_0, sf_aload_n0, stepd_ok dX1_takeOut_1, sf_getfield (P := pr_X1_takeOut) ftX1_11, stepd_ok dX1_takeOut_4, sf_iload_n1, stepd_ok dX1_takeOut_5, sf_aaload, stepd_ok dX1_takeOut_6, sf_astore_n2, stepd_ok dX1_takeOut_7, stepd_ok dX1_takeOut_8, sf_iconst, stepd_ok dX1_takeOut_9, sf_iadd, stepd_ok dX1_takeOut_10, sf_istore_n3, stepd_ok dX1_takeOut_11, sf_iload_n3, stepd_ok dX1_takeOut_12, stepd_ok dX1_takeOut_13, sf_getfield (P := pr_X1_takeOut) ftX1_35, stepd_ok dX1_takeOut_16, jk_at (pc := 16) (off := 23) (t := 39) rfl, jo_at (pc := 16) (off := 23) (t := 39) rfl, sf_if_icmp_ge, stepd_ok dX1_takeOut_19, stepd_ok dX1_takeOut_20, stepd_ok dX1_takeOut_23, stepd_ok dX1_takeOut_24, stepd_ok dX1_takeOut_25, sf_isub, stepd_ok dX1_takeOut_26, stepd_ok dX1_takeOut_27, stepd_ok dX1_takeOut_30, stepd_ok dX1_takeOut_31, stepd_ok dX1_takeOut_32, sf_aastore, stepd_ok dX1_takeOut_33, sf_iinc, stepd_ok dX1_takeOut_36, jk_at (pc := 36) (off := -25) (t := 11) rfl, sf_goto, stepd_ok dX1_takeOut_39, stepd_ok dX1_takeOut_40, sf_dup, stepd_ok dX1_takeOut_41, stepd_ok dX1_takeOut_44, stepd_ok dX1_takeOut_45, stepd_ok dX1_takeOut_46, sf_putfield (P := pr_X1_takeOut) ftX1_35, stepd_ok dX1_takeOut_49, stepd_ok dX1_takeOut_50, stepd_ok dX1_takeOut_53, stepd_ok dX1_takeOut_54, stepd_ok dX1_takeOut_57, sf_aload_n2, stepd_ok dX1_takeOut_58, stepd_ok dX1_takeOut_59, sf_vret (P := pr_X1_takeOut) rfl rfl, hc, h0, hw24, ew]
  have hwn : (w + 1) = ((w.toNat + 1 : Nat) : Int) := by omega
  rw [hwn]
  exact loop (σ 1 c 1 - w - 1).toNat (w.toNat + 1) _ (by omega) (by omega) (fun j hj => by rw [if_pos (by omega)]) (fun j hj => rfl) (fun c' i k h => rfl)
theorem cn_X1_takeOut (l : Launch) (Γ : Ga) : Cn l Γ yX1_takeOut (wsy yX1_takeOut cX1_takeOut 4 none) rm_X1_takeOut 0 sp_X1_takeOut := Cn_of (P := pr_X1_takeOut) (own := RX1) (by decide) rfl rfl (by decide) rfl ⟨rfl, rfl⟩ ftX1_ok (fun _ h => (List.not_mem_nil h).elim) (fun _ h => (List.not_mem_nil h).elim) (fun _ _ _ _ _ _ _ _ _ _ q hq => (List.not_mem_nil hq).elim) sem_X1_takeOut
