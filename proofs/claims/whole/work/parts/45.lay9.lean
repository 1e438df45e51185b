theorem runz_keep {S : Nat → Int} {V : Nat → Nat → Int} {kp : Int} {n w : Nat} {zs : Nat → Nat → Nat → Int} (h : RunZ S V kp n zs) (hn : n ≤ nS S) {j : Nat} (hj : rkV S V w < j) : ∀ d, j + d ≤ n → ∀ k, zs (j + d) w k = zs j w k := by
  intro d
  induction d with
  | zero => intro _ _; rfl
  | succ d ih =>
    intro hd k
    obtain ⟨o, ho, e⟩ := rk_sur (wt := wtV V) (show j + d < nS S by omega)
    obtain ⟨f, x, y, u, -, -, ho2, -⟩ := h.2 (j + d) (by omega) o ho e
    have hne : w ≠ o := fun z => by subst z; have e' : rkV S V w = ((j + d : Nat) : Int) := e; omega
    have a := ho2 w k hne
    rw [← ih (by omega) k]
    exact a
/-- what a laying of the cloud c that goes to its end leaves -/
def LayB (σ σ' : Sto) (c : Nat) : Prop := FrA σ σ' c ∧ Phy σ' ∧ ClOK σ' c ∧ SetOK σ' c ∧ (0 ≤ σ' 4 0 5 ∧ σ' 4 0 5 ≤ 24) ∧ BxG σ'
def LayA (σ σ' : Sto) (c : Nat) (z : Nat → Nat → Int) : Prop := LayB σ σ' c ∧ (∀ w, w < cn_ σ c → Mat σ' (en σ c w) (z w)) ∧ σ' 1 c 7 = ct (MovZ (vV σ c) z) (cn_ σ c)
theorem linv_0 {σ τ : Sto} {c : Nat} {kp : Int} (hB : BxG σ) (hP : Phy σ) (hC : ClOK σ c) (hc : c < 6) (hm : 0 ≤ σ 4 0 5 ∧ σ 4 0 5 ≤ 24) (hf : ∀ c' i k : Nat, (c' ≠ 0 ∨ i ≠ 144 ∨ k ≠ 0) → (c' ≠ 4 ∨ i ≠ 0 ∨ k ≠ 4) → (c' ≠ 12 ∨ i ≠ 0) → (c' ≠ 1 ∨ i ≠ c ∨ k ≠ 7) → τ c' i k = σ c' i k) (h4 : τ 4 0 4 = 0) (h7 : τ 1 c 7 = 0) (h0 : τ 0 144 0 = 1) (ho : ∀ w : Nat, w < cn_ σ c → τ 12 0 (rk (cn_ σ c) (wtv σ c) w).toNat = (w : Int)) : LInv σ c kp 0 (fun _ _ _ => 0) τ := by
  have f9 : ∀ c' k, τ 9 c' k = σ 9 c' k := fun c' k => hf 9 c' k (by omega) (by omega) (by omega) (by omega)
  have f11 : ∀ c' k, τ 11 c' k = σ 11 c' k := fun c' k => hf 11 c' k (by omega) (by omega) (by omega) (by omega)
  have elt : ∀ i, i < cn_ σ c → en σ c i < 144 := fun i hi => (en_lt hP hc (by have := hC.1; unfold cn_ at hi; omega)).1
  refine ⟨⟨fun _ _ => rfl, fun r' h => absurd h (by omega)⟩, fun c' i k o1 o2 o3 o4 o5 => hf c' i k (by omega) (by omega) (by omega) o5, ?_, ?_, ?_, h0, fun w hw h => absurd h (by have := (rkV_r hw).1; omega), fun w hw _ => ⟨fun _ => rfl, fun k => hf 0 _ k (by have := elt w hw; omega) (by omega) (by omega) (by omega)⟩, by omega, ?_, fun i hi => absurd hi (by omega), fun i j hij hj => absurd hj (by omega), fun w hw h => (Int.lt_irrefl 0 h).elim, ?_, ho, fun e he h0 => ?_⟩
  · refine ⟨fun e he => ?_, fun c hc j hj => by rw [f9]; exact hP.2.1 c hc j hj, fun c hc j hj j' hj' e => hP.2.2.1 c hc j hj j' hj' (by rw [← f9, ← f9]; exact e), fun j hj => by rw [f11]; exact hP.2.2.2.1 j hj, fun j hj j' hj' e => hP.2.2.2.2 j hj j' hj' (by rw [← f11, ← f11]; exact e)⟩
    have f0 : ∀ k, k ≠ 0 → τ 0 e k = σ 0 e k := fun k hk => hf 0 e k (by omega) (by omega) (by omega) (by omega)
    have a := hP.1 e he
    refine ⟨?_, ?_, by rw [f0 1 (by omega)]; exact a.2.2⟩
    · unfold bx4; rw [f0 2 (by omega), f0 3 (by omega), f0 4 (by omega), f0 5 (by omega)]; exact a.1
    · by_cases g : e = 144
      · subst g; rw [h0]; exact Or.inr rfl
      · rw [hf 0 e 0 (by omega) (by omega) (by omega) (by omega)]; exact a.2.1
  · exact cl_congr (hf 1 c 1 (by omega) (by omega) (by omega) (by omega)) (fun k => f9 c k) (fun i hi c' k _ => hf c' _ k (by have := elt i hi; omega) (by omega) (by omega) (by omega)) hC
  · rw [hf 4 0 5 (by omega) (by omega) (by omega) (by omega)]; exact hm
  · rw [h4, ct_0 (fun i _ z => Int.lt_irrefl 0 z)]
  · rw [h7, ct_0 (fun i hi z => by have := (rkV_r hi).1; have := z.1; omega)]
  · have g := fun k => hf 0 e k (by omega) (by omega) (by omega) (by omega)
    rw [g] at h0
    rw [g, g, g, g]
    exact hB e he h0
theorem linv_b {σ τ : Sto} {c r : Nat} {kp : Int} {zs : Nat → Nat → Nat → Int} (hC : ClOK σ c) (hS : SetOK σ c) (hr : r ≤ cn_ σ c) (h : LInv σ c kp r zs τ) : LayB σ τ c := by
  have a := linv_lst hS hr h (by have := hC.1; unfold cn_; omega)
  obtain ⟨hrun, hfr, hP, hC', hm, h144, hmat, hzero, hpc, hpct, hpl, hord, hsur, hmv, hor, hbg⟩ := h
  exact ⟨hfr, hP, hC', a.1.2.2.1, hm, hbg⟩
theorem linv_a {σ τ : Sto} {c : Nat} {kp : Int} {zs : Nat → Nat → Nat → Int} (hC : ClOK σ c) (hS : SetOK σ c) (h : LInv σ c kp (cn_ σ c) zs τ) : OutZ (vS σ c) (vV σ c) kp (zs (cn_ σ c)) ∧ LayA σ τ c (zs (cn_ σ c)) := by
  have b := linv_b hC hS (Nat.le_refl _) h
  obtain ⟨hrun, hfr, hP, hC', hm, h144, hmat, hzero, hpc, hpct, hpl, hord, hsur, hmv, hor, hbg⟩ := h
  refine ⟨⟨zs, hrun, rfl⟩, b, fun w hw => hmat w hw (rkV_r hw).2, ?_⟩
  rw [hmv]
  exact ct_congr _ (fun w hw => ⟨fun z => z.2, fun z => ⟨(rkV_r hw).2, z⟩⟩)
theorem linv_nx {σ τ : Sto} {c r : Nat} {kp : Int} {zs : Nat → Nat → Nat → Int} (hC : ClOK σ c) (hS : SetOK σ c) (hr : r < cn_ σ c) (h : LInv σ c kp r zs τ) : ∃ w : Nat, w < cn_ σ c ∧ rkV (vS σ c) (vV σ c) w = r ∧ τ 12 0 r = w ∧ (w : Int) < τ 1 c 1 ∧ τ 4 0 4 < 24 ∧ τ 1 c 7 < 24 := by
  have n24 := hC.1
  obtain ⟨hrun, hfr, hP, hC', hm, h144, hmat, hzero, hpc, hpct, hpl, hord, hsur, hmv, hor, hbg⟩ := h
  obtain ⟨w, hw, e⟩ := rk_sur (wt := wtv σ c) hr
  have e' : rkV (vS σ c) (vV σ c) w = r := e
  have o := hor w hw
  rw [e', Int.toNat_natCast] at o
  have k : τ 1 c 1 = σ 1 c 1 := hfr 1 c 1 (by omega) (by omega) (by omega) (by omega) (by omega)
  refine ⟨w, hw, e', o, by unfold cn_ at hw; omega, by unfold cn_ at hr; omega, ?_⟩
  rw [hmv]
  have a := ct_lt (P := fun w => rkV (vS σ c) (vV σ c) w < r ∧ MovZ (vV σ c) (zs r) w) (Q := fun _ => True) hw (fun _ _ _ => trivial) (fun z => by have := z.1; omega) trivial
  have b := (ct_r (P := fun _ => True) (cn_ σ c)).2
  unfold cn_ at *; omega
def sp_X4_layAll : Spec := fun a σ K KX => ∃ (i : Nat) (c : Nat) (kp : Int), a = [vr 4 i, vr 1 c, vi kp] ∧ (i < 1 ∧ c < 6 ∧ Phy σ ∧ ClOK σ c ∧ SetOK σ c ∧ (0 ≤ σ 4 0 5 ∧ σ 4 0 5 ≤ 24) ∧ BxG σ ∧ bitOK kp ∧ ∀ σ' z, OutZ (vS σ c) (vV σ c) kp z → LayA σ σ' c z → K (some (vi (ct (fun w => 0 < z w 2) (cn_ σ c)))) σ')
theorem sp_X4_layAll_e {i : Nat} {c : Nat} {kp : Int} {σ : Sto} {K : Option AV → Sto → Prop} {KX : Nat → Sto → Prop} : sp_X4_layAll [vr 4 i, vr 1 c, vi kp] σ K KX = (i < 1 ∧ c < 6 ∧ Phy σ ∧ ClOK σ c ∧ SetOK σ c ∧ (0 ≤ σ 4 0 5 ∧ σ 4 0 5 ≤ 24) ∧ BxG σ ∧ bitOK kp ∧ ∀ σ' z, OutZ (vS σ c) (vV σ c) kp z → LayA σ σ' c z → K (some (vi (ct (fun w => 0 < z w 2) (cn_ σ c)))) σ') := propext ⟨fun h => by obtain ⟨_, _, _, h, hb⟩ := h; cases h; exact hb, fun hb => ⟨_, _, _, rfl, hb⟩⟩
def pr_X4_layAll : Par := (ftX4, [(32, (2, 0, 4 + 1, sp_X4_begin)), (42, (4, 0, 4 + 1, sp_X4_layWord))], [], [], 1, 0, none)
def rm_X4_layAll : Room := { frames := 5, cells := 0, slots := 0, locals := 120 }
theorem ca_X4_layAll_32 : List.lookup 32 pr_X4_layAll.2.1 = some (2, 0, 4 + 1, sp_X4_begin) := rfl
theorem ca_X4_layAll_42 : List.lookup 42 pr_X4_layAll.2.1 = some (4, 0, 4 + 1, sp_X4_layWord) := rfl
set_option maxRecDepth 100000 in
set_option maxHeartbeats 4000000 in
theorem sem_X4_layAll : Sem pr_X4_layAll cX4_layAll 4 sp_X4_layAll := by
  rintro a σ K KX ⟨i, c, kp, rfl, hi, hc, hP, hC, hS, hm, hB, hkp, hK⟩
  refine ⟨by simp [vr, vi, nj], Nat.le_of_ble_eq_true rfl, fun G hG => ?_⟩
  have hi0 : i = 0 := by omega
  subst hi0
  have n24 := hC.1
  have n24' : cn_ σ c ≤ 24 := by unfold cn_; omega
  have loop : ∀ (n j : Nat), j + n = cn_ σ c → ∀ τ zs, LInv σ c kp j zs τ → G 7 [vr 4 0, vr 1 c, vi kp, vi j] [] τ 0 := by
    intro n
    induction n with
    | zero =>
      intro j hj τ zs h
      have ej : j = cn_ σ c := by omega
      subst ej
      have k1 : τ 1 c 1 = σ 1 c 1 := h.2.1 1 c 1 (by omega) (by omega) (by omega) (by omega) (by omega)
      have k2 : inR (σ 1 c 1) := by unfold inR; omega
      have a := linv_a hC hS h
      have k := hK τ _ a.1 a.2
      have k4 := h.2.2.2.2.2.2.2.2.2.1
      rw [← k4] at k
      have k5 : inR (τ 4 0 4) := by have := h.2.2.2.2.2.2.2.2.1; unfold inR; omega
      refine run hG [7] 60 ?_
      simp only [wpn_s, wpn_0, br_T, br_F, st1, st2, true_and, and_true, ↓reduceIte, if_true, if_false, List.contains_nil, List.contains_cons, Bool.or_false, Bool.or_true, Bool.true_or, Bool.false_or, Bool.false_eq_true, bit_0, bit_1, bit_b, true_or, or_true, or_false, false_or, up_e, up_nc, up_nj, ne_eq, not_false_eq_true, not_true_eq_false, inR_n, inR_m1, bi_RT, br_bi, Nat.reduceAdd, Nat.reduceLT, Nat.reduceLeDiff, Nat.reduceEqDiff, Nat.reduceBEq, Nat.zero_le, Int.reduceAdd, Int.reduceNeg, Int.reduceLE, Int.reduceLT, Int.reduceToNat, Int.reduceNatCast, Int.reduceEq, Int.reduceSub, Int.reduceMul, set_0, set_s, len_c, len_n, nc2_0, nc2_1i, nc2_1r, nc2_1j, nc2_s, rcv_e, take_c, take_z, drop_c, drop_z, rev_c, rev_n, app_c, app_n, tol_s, tol_n, Nat.le_refl, s1i_e, s2i_e, s1r_e, sir_e, siir_e, srir_e, c1_i, c1_r, s1v_e, s2v_e, ldv_0, ldv_s, ldx_0, ldx_s, ldi_0, ldi_s, ldr_0, ldr_s, fg_0_0, fg_0_1, fg_0_2, fg_0_3, fg_0_4, fg_0_5, fg_1_0, fg_1_1, fg_1_2, fg_1_3, fg_1_4, fg_1_5, fg_1_6, fg_1_7, fg_2_0, fg_2_1, fg_2_2, fg_2_3, fg_2_4, fg_2_5, fg_3_0, fg_3_1, fg_4_0, fg_4_1, fg_4_2, fg_4_3, fg_4_4, fg_4_5, fg_5_0, fg_5_1, fg_5_2, fg_5_3, fg_5_4, fg_5_5, fg_5_6, fg_6_0, fg_6_1, fg_6_2, fg_6_3, fg_7_0, fg_7_1, fg_7_2, fg_7_3, fg_7_4, fg_7_5, fg_8_0, fg_8_1, fg_8_2, fg_8_3, fg_8_4, fg_8_5, fg_8_6, fg_8_7, fg_8_8, fg_8_9, fg_8_10, fg_8_11, fg_8_12, fg_8_13, cnt_0, cnt_1, cnt_2, cnt_3, cnt_4, cnt_5, cnt_6, cnt_7, cnt_8, cnt_9, cnt_10, cnt_11, cnt_12, cnt_13, cnt_14, fk, rd, al_9, al_10, al_11, al_13, al_12_0, al_12_1, al_12_2, al_12_3, al_12_4, al_12_5, al_12_6, al_12_7, al_12_8, al_12_9, al_12_10, al_12_11, stepd_ok dX4_layAll_0, sf_aload_n0, stepd_ok dX4_layAll_1, sf_aload_n1, stepd_ok dX4_layAll_2, sf_inv (P := pr_X4_layAll) ca_X4_layAll_32 rfl, stepd_ok dX4_layAll_5, sf_iconst, stepd_ok dX4_layAll_6, sf_istore_n3, stepd_ok dX4_layAll_7, sf_iload_n3, stepd_ok dX4_layAll_8, stepd_ok dX4_layAll_9, sf_getfield (P := pr_X4_layAll) ftX4_36, stepd_ok dX4_layAll_12, jk_at (pc := 12) (off := 22) (t := 34) rfl, jo_at (pc := 12) (off := 22) (t := 34) rfl, sf_if_icmp_ge, stepd_ok dX4_layAll_15, stepd_ok dX4_layAll_16, stepd_ok dX4_layAll_17, stepd_ok dX4_layAll_18, sf_getfield (P := pr_X4_layAll) ftX4_9, stepd_ok dX4_layAll_21, stepd_ok dX4_layAll_22, sf_iaload, stepd_ok dX4_layAll_23, sf_iload_n2, stepd_ok dX4_layAll_24, sf_inv (P := pr_X4_layAll) ca_X4_layAll_42 rfl, stepd_ok dX4_layAll_27, sf_pop, stepd_ok dX4_layAll_28, sf_iinc, stepd_ok dX4_layAll_31, jk_at (pc := 31) (off := -24) (t := 7) rfl, sf_goto, stepd_ok dX4_layAll_34, stepd_ok dX4_layAll_35, sf_getfield (P := pr_X4_layAll) ftX4_46, stepd_ok dX4_layAll_38, sf_iret1 (P := pr_X4_layAll) rfl rfl, sp_X4_begin_e, sp_X4_layWord_e, Nat.zero_lt_one, hc, k1, k2]
      refine ⟨by unfold inR; omega, fun h => absurd h (by unfold cn_; omega), fun _ => ?_⟩
      exact k
    | succ n ih =>
      intro j hj τ zs h
      have k1 : τ 1 c 1 = σ 1 c 1 := h.2.1 1 c 1 (by omega) (by omega) (by omega) (by omega) (by omega)
      have k2 : inR (σ 1 c 1) := by unfold inR; omega
      obtain ⟨w, hw, hr, ho, hw1, h4, h7⟩ := linv_nx hC hS (show j < cn_ σ c by omega) h
      have hls := linv_lst hS (by omega) h n24'
      have h144 := h.2.2.2.2.2.1
      have j0 : (0 : Int) ≤ j := by omega
      have j24 : (j : Int) < 24 := by omega
      have w0 : (0 : Int) ≤ w := by omega
      have rw_ : inR (w : Int) := by unfold inR; omega
      have w1' : (w : Int) < σ 1 c 1 := by omega
      refine run hG [7] 60 ?_
      simp only [wpn_s, wpn_0, br_T, br_F, st1, st2, true_and, and_true, ↓reduceIte, if_true, if_false, List.contains_nil, List.contains_cons, Bool.or_false, Bool.or_true, Bool.true_or, Bool.false_or, Bool.false_eq_true, bit_0, bit_1, bit_b, true_or, or_true, or_false, false_or, up_e, up_nc, up_nj, ne_eq, not_false_eq_true, not_true_eq_false, inR_n, inR_m1, bi_RT, br_bi, Nat.reduceAdd, Nat.reduceLT, Nat.reduceLeDiff, Nat.reduceEqDiff, Nat.reduceBEq, Nat.zero_le, Int.reduceAdd, Int.reduceNeg, Int.reduceLE, Int.reduceLT, Int.reduceToNat, Int.reduceNatCast, Int.reduceEq, Int.reduceSub, Int.reduceMul, set_0, set_s, len_c, len_n, nc2_0, nc2_1i, nc2_1r, nc2_1j, nc2_s, rcv_e, take_c, take_z, drop_c, drop_z, rev_c, rev_n, app_c, app_n, tol_s, tol_n, Nat.le_refl, s1i_e, s2i_e, s1r_e, sir_e, siir_e, srir_e, c1_i, c1_r, s1v_e, s2v_e, ldv_0, ldv_s, ldx_0, ldx_s, ldi_0, ldi_s, ldr_0, ldr_s, fg_0_0, fg_0_1, fg_0_2, fg_0_3, fg_0_4, fg_0_5, fg_1_0, fg_1_1, fg_1_2, fg_1_3, fg_1_4, fg_1_5, fg_1_6, fg_1_7, fg_2_0, fg_2_1, fg_2_2, fg_2_3, fg_2_4, fg_2_5, fg_3_0, fg_3_1, fg_4_0, fg_4_1, fg_4_2, fg_4_3, fg_4_4, fg_4_5, fg_5_0, fg_5_1, fg_5_2, fg_5_3, fg_5_4, fg_5_5, fg_5_6, fg_6_0, fg_6_1, fg_6_2, fg_6_3, fg_7_0, fg_7_1, fg_7_2, fg_7_3, fg_7_4, fg_7_5, fg_8_0, fg_8_1, fg_8_2, fg_8_3, fg_8_4, fg_8_5, fg_8_6, fg_8_7, fg_8_8, fg_8_9, fg_8_10, fg_8_11, fg_8_12, fg_8_13, cnt_0, cnt_1, cnt_2, cnt_3, cnt_4, cnt_5, cnt_6, cnt_7, cnt_8, cnt_9, cnt_10, cnt_11, cnt_12, cnt_13, cnt_14, fk, rd, al_9, al_10, al_11, al_13, al_12_0, al_12_1, al_12_2, al_12_3, al_12_4, al_12_5, al_12_6, al_12_7, al_12_8, al_12_9, al_12_10, al_12_11, stepd_ok dX4_layAll_0, sf_aload_n0, stepd_ok dX4_layAll_1, sf_aload_n1, stepd_ok dX4_layAll_2, sf_inv (P := pr_X4_layAll) ca_X4_layAll_32 rfl, stepd_ok dX4_layAll_5, sf_iconst, stepd_ok dX4_layAll_6, sf_istore_n3, stepd_ok dX4_layAll_7, sf_iload_n3, stepd_ok dX4_layAll_8, stepd_ok dX4_layAll_9, sf_getfield (P := pr_X4_layAll) ftX4_36, stepd_ok dX4_layAll_12, jk_at (pc := 12) (off := 22) (t := 34) rfl, jo_at (pc := 12) (off := 22) (t := 34) rfl, sf_if_icmp_ge, stepd_ok dX4_layAll_15, stepd_ok dX4_layAll_16, stepd_ok dX4_layAll_17, stepd_ok dX4_layAll_18, sf_getfield (P := pr_X4_layAll) ftX4_9, stepd_ok dX4_layAll_21, stepd_ok dX4_layAll_22, sf_iaload, stepd_ok dX4_layAll_23, sf_iload_n2, stepd_ok dX4_layAll_24, sf_inv (P := pr_X4_layAll) ca_X4_layAll_42 rfl, stepd_ok dX4_layAll_27, sf_pop, stepd_ok dX4_layAll_28, sf_iinc, stepd_ok dX4_layAll_31, jk_at (pc := 31) (off := -24) (t := 7) rfl, sf_goto, stepd_ok dX4_layAll_34, stepd_ok dX4_layAll_35, sf_getfield (P := pr_X4_layAll) ftX4_46, stepd_ok dX4_layAll_38, sf_iret1 (P := pr_X4_layAll) rfl rfl, sp_X4_begin_e, sp_X4_layWord_e, Nat.zero_lt_one, hc, k1, k2, hls, h144, ho, h4, h7, hkp, j0, j24, w0, rw_, w1', Int.toNat_natCast]
      refine ⟨by unfold inR; omega, fun _ σ' f x y u hch hl hf => ?_, fun h => absurd h (by unfold cn_ at hj; omega)⟩
      obtain ⟨zs', hz, hL', hfz⟩ := linv_step hP hC hS hc hw hr h hch hl hf
      exact ih (j + 1) (by omega) σ' zs' hL'
  show G 0 [vr 4 0, vr 1 c, vi kp, vj] [] σ 0
  refine run hG [7] 60 ?_
  simp only [wpn_s, wpn_0, br_T, br_F, st1, st2, true_and, and_true, ↓reduceIte, if_true, if_false, List.contains_nil, List.contains_cons, Bool.or_false, Bool.or_true, Bool.true_or, Bool.false_or, Bool.false_eq_true, bit_0, bit_1, bit_b, true_or, or_true, or_false, false_or, up_e, up_nc, up_nj, ne_eq, not_false_eq_true, not_true_eq_false, inR_n, inR_m1, bi_RT, br_bi, Nat.reduceAdd, Nat.reduceLT, Nat.reduceLeDiff, Nat.reduceEqDiff, Nat.reduceBEq, Nat.zero_le, Int.reduceAdd, Int.reduceNeg, Int.reduceLE, Int.reduceLT, Int.reduceToNat, Int.reduceNatCast, Int.reduceEq, Int.reduceSub, Int.reduceMul, set_0, set_s, len_c, len_n, nc2_0, nc2_1i, nc2_1r, nc2_1j, nc2_s, rcv_e, take_c, take_z, drop_c, drop_z, rev_c, rev_n, app_c, app_n, tol_s, tol_n, Nat.le_refl, s1i_e, s2i_e, s1r_e, sir_e, siir_e, srir_e, c1_i, c1_r, s1v_e, s2v_e, ldv_0, ldv_s, ldx_0, ldx_s, ldi_0, ldi_s, ldr_0, ldr_s, fg_0_0, fg_0_1, fg_0_2, fg_0_3, fg_0_4, fg_0_5, fg_1_0, fg_1_1, fg_1_2, fg_1_3, fg_1_4, fg_1_5, fg_1_6, fg_1_7, fg_2_0, fg_2_1, fg_2_2, fg_2_3, fg_2_4, fg_2_5, fg_3_0, fg_3_1, fg_4_0, fg_4_1, fg_4_2, fg_4_3, fg_4_4, fg_4_5, fg_5_0, fg_5_1, fg_5_2, fg_5_3, fg_5_4, fg_5_5, fg_5_6, fg_6_0, fg_6_1, fg_6_2, fg_6_3, fg_7_0, fg_7_1, fg_7_2, fg_7_3, fg_7_4, fg_7_5, fg_8_0, fg_8_1, fg_8_2, fg_8_3, fg_8_4, fg_8_5, fg_8_6, fg_8_7, fg_8_8, fg_8_9, fg_8_10, fg_8_11, fg_8_12, fg_8_13, cnt_0, cnt_1, cnt_2, cnt_3, cnt_4, cnt_5, cnt_6, cnt_7, cnt_8, cnt_9, cnt_10, cnt_11, cnt_12, cnt_13, cnt_14, fk, rd, al_9, al_10, al_11, al_13, al_12_0, al_12_1, al_12_2, al_12_3, al_12_4, al_12_5, al_12_6, al_12_7, al_12_8, al_12_9, al_12_10, al_12_11, stepd_ok dX4_layAll_0, sf_aload_n0, stepd_ok dX4_layAll_1, sf_aload_n1, stepd_ok dX4_layAll_2, sf_inv (P := pr_X4_layAll) ca_X4_layAll_32 rfl, stepd_ok dX4_layAll_5, sf_iconst, stepd_ok dX4_layAll_6, sf_istore_n3, stepd_ok dX4_layAll_7, sf_iload_n3, stepd_ok dX4_layAll_8, stepd_ok dX4_layAll_9, sf_getfield (P := pr_X4_layAll) ftX4_36, stepd_ok dX4_layAll_12, jk_at (pc := 12) (off := 22) (t := 34) rfl, jo_at (pc := 12) (off := 22) (t := 34) rfl, sf_if_icmp_ge, stepd_ok dX4_layAll_15, stepd_ok dX4_layAll_16, stepd_ok dX4_layAll_17, stepd_ok dX4_layAll_18, sf_getfield (P := pr_X4_layAll) ftX4_9, stepd_ok dX4_layAll_21, stepd_ok dX4_layAll_22, sf_iaload, stepd_ok dX4_layAll_23, sf_iload_n2, stepd_ok dX4_layAll_24, sf_inv (P := pr_X4_layAll) ca_X4_layAll_42 rfl, stepd_ok dX4_layAll_27, sf_pop, stepd_ok dX4_layAll_28, sf_iinc, stepd_ok dX4_layAll_31, jk_at (pc := 31) (off := -24) (t := 7) rfl, sf_goto, stepd_ok dX4_layAll_34, stepd_ok dX4_layAll_35, sf_getfield (P := pr_X4_layAll) ftX4_46, stepd_ok dX4_layAll_38, sf_iret1 (P := pr_X4_layAll) rfl rfl, sp_X4_begin_e, sp_X4_layWord_e, Nat.zero_lt_one, hc, hP, hC]
  intro σ' hf h4 h7 h0 ho
  exact loop (cn_ σ c) 0 (by omega) σ' _ (linv_0 hB hP hC hc hm hf h4 h7 h0 ho)
theorem cn_X4_layAll (l : Launch) (Γ : Ga) : Cn l Γ yX4_layAll (wsy yX4_layAll cX4_layAll 4 (some .int)) rm_X4_layAll 0 sp_X4_layAll := Cn_of (P := pr_X4_layAll) (own := RX4) (by decide) rfl rfl (by decide) rfl ⟨rfl, rfl⟩ ftX4_ok (List.forall_mem_cons.mpr ⟨callV_of (rc := 4) (cn_X4_begin l Γ) rfl rfl (List.forall_mem_cons.mpr ⟨wl_X4_32, fun _ h => wm_X4_begin h⟩) ⟨rfl, by decide, by decide, by decide +kernel⟩ ⟨by decide, by decide⟩, List.forall_mem_cons.mpr ⟨callV_of (rc := 4) (cn_X4_layWord l Γ) rfl rfl (List.forall_mem_cons.mpr ⟨wl_X4_42, fun _ h => wm_X4_layWord h⟩) ⟨rfl, by decide, by decide, by decide +kernel⟩ ⟨by decide, by decide⟩, fun _ h => (List.not_mem_nil h).elim⟩⟩) (fun _ h => (List.not_mem_nil h).elim) (fun _ _ _ _ _ _ _ _ _ _ q hq => (List.not_mem_nil hq).elim) sem_X4_layAll
def sp_X4_canLayEveryWord : Spec := fun a σ K KX => ∃ (i : Nat) (c : Nat), a = [vr 4 i, vr 1 c] ∧ (i < 1 ∧ c < 6 ∧ Phy σ ∧ ClOK σ c ∧ SetOK σ c ∧ (0 ≤ σ 4 0 5 ∧ σ 4 0 5 ≤ 24) ∧ BxG σ ∧ ∀ σ', LayB σ σ' c → K (some (vi (bi (∃ z, OutZ (vS σ c) (vV σ c) 0 z ∧ ∀ w, w < cn_ σ c → 0 < z w 2)))) σ')
theorem sp_X4_canLayEveryWord_e {i : Nat} {c : Nat} {σ : Sto} {K : Option AV → Sto → Prop} {KX : Nat → Sto → Prop} : sp_X4_canLayEveryWord [vr 4 i, vr 1 c] σ K KX = (i < 1 ∧ c < 6 ∧ Phy σ ∧ ClOK σ c ∧ SetOK σ c ∧ (0 ≤ σ 4 0 5 ∧ σ 4 0 5 ≤ 24) ∧ BxG σ ∧ ∀ σ', LayB σ σ' c → K (some (vi (bi (∃ z, OutZ (vS σ c) (vV σ c) 0 z ∧ ∀ w, w < cn_ σ c → 0 < z w 2)))) σ') := propext ⟨fun h => by obtain ⟨_, _, h, hb⟩ := h; cases h; exact hb, fun hb => ⟨_, _, rfl, hb⟩⟩
def pr_X4_canLayEveryWord : Par := (ftX4, [(32, (2, 0, 4 + 1, sp_X4_begin)), (42, (4, 0, 4 + 1, sp_X4_layWord))], [], [], 2, 0, none)
def rm_X4_canLayEveryWord : Room := { frames := 5, cells := 0, slots := 0, locals := 120 }
theorem ca_X4_canLayEveryWord_32 : List.lookup 32 pr_X4_canLayEveryWord.2.1 = some (2, 0, 4 + 1, sp_X4_begin) := rfl
theorem ca_X4_canLayEveryWord_42 : List.lookup 42 pr_X4_canLayEveryWord.2.1 = some (4, 0, 4 + 1, sp_X4_layWord) := rfl
set_option maxRecDepth 100000 in
set_option maxHeartbeats 4000000 in
theorem sem_X4_canLayEveryWord : Sem pr_X4_canLayEveryWord cX4_canLayEveryWord 3 sp_X4_canLayEveryWord := by
  rintro a σ K KX ⟨i, c, rfl, hi, hc, hP, hC, hS, hm, hB, hK⟩
  refine ⟨by simp [vr, vi, nj], Nat.le_of_ble_eq_true rfl, fun G hG => ?_⟩
  have hi0 : i = 0 := by omega
  subst hi0
  have n24 := hC.1
  have n24' : cn_ σ c ≤ 24 := by unfold cn_; omega
  have loop : ∀ (n j : Nat), j + n = cn_ σ c → ∀ τ zs, LInv σ c 0 j zs τ → (∀ w, w < cn_ σ c → rkV (vS σ c) (vV σ c) w < j → 0 < zs j w 2) → G 7 [vr 4 0, vr 1 c, vi j] [] τ 0 := by
    intro n
    induction n with
    | zero =>
      intro j hj τ zs h hall
      have ej : j = cn_ σ c := by omega
      subst ej
      have k1 : τ 1 c 1 = σ 1 c 1 := h.2.1 1 c 1 (by omega) (by omega) (by omega) (by omega) (by omega)
      have k2 : inR (σ 1 c 1) := by unfold inR; omega
      have a := linv_a hC hS h
      have k := hK τ a.2.1
      rw [bi_t ⟨_, a.1, fun w hw => hall w hw (rkV_r hw).2⟩] at k
      refine run hG [7] 60 ?_
      simp only [wpn_s, wpn_0, br_T, br_F, st1, st2, true_and, and_true, ↓reduceIte, if_true, if_false, List.contains_nil, List.contains_cons, Bool.or_false, Bool.or_true, Bool.true_or, Bool.false_or, Bool.false_eq_true, bit_0, bit_1, bit_b, true_or, or_true, or_false, false_or, up_e, up_nc, up_nj, ne_eq, not_false_eq_true, not_true_eq_false, inR_n, inR_m1, bi_RT, br_bi, Nat.reduceAdd, Nat.reduceLT, Nat.reduceLeDiff, Nat.reduceEqDiff, Nat.reduceBEq, Nat.zero_le, Int.reduceAdd, Int.reduceNeg, Int.reduceLE, Int.reduceLT, Int.reduceToNat, Int.reduceNatCast, Int.reduceEq, Int.reduceSub, Int.reduceMul, set_0, set_s, len_c, len_n, nc2_0, nc2_1i, nc2_1r, nc2_1j, nc2_s, rcv_e, take_c, take_z, drop_c, drop_z, rev_c, rev_n, app_c, app_n, tol_s, tol_n, Nat.le_refl, s1i_e, s2i_e, s1r_e, sir_e, siir_e, srir_e, c1_i, c1_r, s1v_e, s2v_e, ldv_0, ldv_s, ldx_0, ldx_s, ldi_0, ldi_s, ldr_0, ldr_s, fg_0_0, fg_0_1, fg_0_2, fg_0_3, fg_0_4, fg_0_5, fg_1_0, fg_1_1, fg_1_2, fg_1_3, fg_1_4, fg_1_5, fg_1_6, fg_1_7, fg_2_0, fg_2_1, fg_2_2, fg_2_3, fg_2_4, fg_2_5, fg_3_0, fg_3_1, fg_4_0, fg_4_1, fg_4_2, fg_4_3, fg_4_4, fg_4_5, fg_5_0, fg_5_1, fg_5_2, fg_5_3, fg_5_4, fg_5_5, fg_5_6, fg_6_0, fg_6_1, fg_6_2, fg_6_3, fg_7_0, fg_7_1, fg_7_2, fg_7_3, fg_7_4, fg_7_5, fg_8_0, fg_8_1, fg_8_2, fg_8_3, fg_8_4, fg_8_5, fg_8_6, fg_8_7, fg_8_8, fg_8_9, fg_8_10, fg_8_11, fg_8_12, fg_8_13, cnt_0, cnt_1, cnt_2, cnt_3, cnt_4, cnt_5, cnt_6, cnt_7, cnt_8, cnt_9, cnt_10, cnt_11, cnt_12, cnt_13, cnt_14, fk, rd, al_9, al_10, al_11, al_13, al_12_0, al_12_1, al_12_2, al_12_3, al_12_4, al_12_5, al_12_6, al_12_7, al_12_8, al_12_9, al_12_10, al_12_11, stepd_ok dX4_canLayEveryWord_0, sf_aload_n0, stepd_ok dX4_canLayEveryWord_1, sf_aload_n1, stepd_ok dX4_canLayEveryWord_2, sf_inv (P := pr_X4_canLayEveryWord) ca_X4_canLayEveryWord_32 rfl, stepd_ok dX4_canLayEveryWord_5, sf_iconst, stepd_ok dX4_canLayEveryWord_6, sf_istore_n2, stepd_ok dX4_canLayEveryWord_7, sf_iload_n2, stepd_ok dX4_canLayEveryWord_8, stepd_ok dX4_canLayEveryWord_9, sf_getfield (P := pr_X4_canLayEveryWord) ftX4_36, stepd_ok dX4_canLayEveryWord_12, jk_at (pc := 12) (off := 26) (t := 38) rfl, jo_at (pc := 12) (off := 26) (t := 38) rfl, sf_if_icmp_ge, stepd_ok dX4_canLayEveryWord_15, stepd_ok dX4_canLayEveryWord_16, stepd_ok dX4_canLayEveryWord_17, stepd_ok dX4_canLayEveryWord_18, sf_getfield (P := pr_X4_canLayEveryWord) ftX4_9, stepd_ok dX4_canLayEveryWord_21, stepd_ok dX4_canLayEveryWord_22, sf_iaload, stepd_ok dX4_canLayEveryWord_23, stepd_ok dX4_canLayEveryWord_24, sf_inv (P := pr_X4_canLayEveryWord) ca_X4_canLayEveryWord_42 rfl, stepd_ok dX4_canLayEveryWord_27, jk_at (pc := 27) (off := 5) (t := 32) rfl, jo_at (pc := 27) (off := 5) (t := 32) rfl, sf_ifCond_ne, stepd_ok dX4_canLayEveryWord_30, stepd_ok dX4_canLayEveryWord_31, stepd_ok dX4_canLayEveryWord_32, sf_iinc, stepd_ok dX4_canLayEveryWord_35, jk_at (pc := 35) (off := -28) (t := 7) rfl, sf_goto, stepd_ok dX4_canLayEveryWord_38, stepd_ok dX4_canLayEveryWord_39, sf_iret2 (P := pr_X4_canLayEveryWord) rfl rfl, sp_X4_begin_e, sp_X4_layWord_e, Nat.zero_lt_one, hc, k1, k2]
      refine ⟨by unfold inR; omega, fun h => absurd h (by unfold cn_; omega), fun _ => ?_⟩
      exact k
    | succ n ih =>
      intro j hj τ zs h hall
      have k1 : τ 1 c 1 = σ 1 c 1 := h.2.1 1 c 1 (by omega) (by omega) (by omega) (by omega) (by omega)
      have k2 : inR (σ 1 c 1) := by unfold inR; omega
      obtain ⟨w, hw, hr, ho, hw1, h4, h7⟩ := linv_nx hC hS (show j < cn_ σ c by omega) h
      have hls := linv_lst hS (by omega) h n24'
      have h144 := h.2.2.2.2.2.1
      have j0 : (0 : Int) ≤ j := by omega
      have j24 : (j : Int) < 24 := by omega
      have w0 : (0 : Int) ≤ w := by omega
      have rw_ : inR (w : Int) := by unfold inR; omega
      have w1' : (w : Int) < σ 1 c 1 := by omega
      refine run hG [7] 60 ?_
      simp only [wpn_s, wpn_0, br_T, br_F, st1, st2, true_and, and_true, ↓reduceIte, if_true, if_false, List.contains_nil, List.contains_cons, Bool.or_false, Bool.or_true, Bool.true_or, Bool.false_or, Bool.false_eq_true, bit_0, bit_1, bit_b, true_or, or_true, or_false, false_or, up_e, up_nc, up_nj, ne_eq, not_false_eq_true, not_true_eq_false, inR_n, inR_m1, bi_RT, br_bi, Nat.reduceAdd, Nat.reduceLT, Nat.reduceLeDiff, Nat.reduceEqDiff, Nat.reduceBEq, Nat.zero_le, Int.reduceAdd, Int.reduceNeg, Int.reduceLE, Int.reduceLT, Int.reduceToNat, Int.reduceNatCast, Int.reduceEq, Int.reduceSub, Int.reduceMul, set_0, set_s, len_c, len_n, nc2_0, nc2_1i, nc2_1r, nc2_1j, nc2_s, rcv_e, take_c, take_z, drop_c, drop_z, rev_c, rev_n, app_c, app_n, tol_s, tol_n, Nat.le_refl, s1i_e, s2i_e, s1r_e, sir_e, siir_e, srir_e, c1_i, c1_r, s1v_e, s2v_e, ldv_0, ldv_s, ldx_0, ldx_s, ldi_0, ldi_s, ldr_0, ldr_s, fg_0_0, fg_0_1, fg_0_2, fg_0_3, fg_0_4, fg_0_5, fg_1_0, fg_1_1, fg_1_2, fg_1_3, fg_1_4, fg_1_5, fg_1_6, fg_1_7, fg_2_0, fg_2_1, fg_2_2, fg_2_3, fg_2_4, fg_2_5, fg_3_0, fg_3_1, fg_4_0, fg_4_1, fg_4_2, fg_4_3, fg_4_4, fg_4_5, fg_5_0, fg_5_1, fg_5_2, fg_5_3, fg_5_4, fg_5_5, fg_5_6, fg_6_0, fg_6_1, fg_6_2, fg_6_3, fg_7_0, fg_7_1, fg_7_2, fg_7_3, fg_7_4, fg_7_5, fg_8_0, fg_8_1, fg_8_2, fg_8_3, fg_8_4, fg_8_5, fg_8_6, fg_8_7, fg_8_8, fg_8_9, fg_8_10, fg_8_11, fg_8_12, fg_8_13, cnt_0, cnt_1, cnt_2, cnt_3, cnt_4, cnt_5, cnt_6, cnt_7, cnt_8, cnt_9, cnt_10, cnt_11, cnt_12, cnt_13, cnt_14, fk, rd, al_9, al_10, al_11, al_13, al_12_0, al_12_1, al_12_2, al_12_3, al_12_4, al_12_5, al_12_6, al_12_7, al_12_8, al_12_9, al_12_10, al_12_11, stepd_ok dX4_canLayEveryWord_0, sf_aload_n0, stepd_ok dX4_canLayEveryWord_1, sf_aload_n1, stepd_ok dX4_canLayEveryWord_2, sf_inv (P := pr_X4_canLayEveryWord) ca_X4_canLayEveryWord_32 rfl, stepd_ok dX4_canLayEveryWord_5, sf_iconst, stepd_ok dX4_canLayEveryWord_6, sf_istore_n2, stepd_ok dX4_canLayEveryWord_7, sf_iload_n2, stepd_ok dX4_canLayEveryWord_8, stepd_ok dX4_canLayEveryWord_9, sf_getfield (P := pr_X4_canLayEveryWord) ftX4_36, stepd_ok dX4_canLayEveryWord_12, jk_at (pc := 12) (off := 26) (t := 38) rfl, jo_at (pc := 12) (off := 26) (t := 38) rfl, sf_if_icmp_ge, stepd_ok dX4_canLayEveryWord_15, stepd_ok dX4_canLayEveryWord_16, stepd_ok dX4_canLayEveryWord_17, stepd_ok dX4_canLayEveryWord_18, sf_getfield (P := pr_X4_canLayEveryWord) ftX4_9, stepd_ok dX4_canLayEveryWord_21, stepd_ok dX4_canLayEveryWord_22, sf_iaload, stepd_ok dX4_canLayEveryWord_23, stepd_ok dX4_canLayEveryWord_24, sf_inv (P := pr_X4_canLayEveryWord) ca_X4_canLayEveryWord_42 rfl, stepd_ok dX4_canLayEveryWord_27, jk_at (pc := 27) (off := 5) (t := 32) rfl, jo_at (pc := 27) (off := 5) (t := 32) rfl, sf_ifCond_ne, stepd_ok dX4_canLayEveryWord_30, stepd_ok dX4_canLayEveryWord_31, stepd_ok dX4_canLayEveryWord_32, sf_iinc, stepd_ok dX4_canLayEveryWord_35, jk_at (pc := 35) (off := -28) (t := 7) rfl, sf_goto, stepd_ok dX4_canLayEveryWord_38, stepd_ok dX4_canLayEveryWord_39, sf_iret2 (P := pr_X4_canLayEveryWord) rfl rfl, sp_X4_begin_e, sp_X4_layWord_e, Nat.zero_lt_one, hc, k1, k2, hls, h144, ho, h4, h7, j0, j24, w0, rw_, w1', Int.toNat_natCast]
      refine ⟨by unfold inR; omega, fun _ σ' f x y u hch hl hf => ?_, fun h => absurd h (by unfold cn_ at hj; omega)⟩
      obtain ⟨zs', hz, hL', hfz⟩ := linv_step hP hC hS hc hw hr h hch hl hf
      have hf' := hf
      unfold bitOK at hf'
      refine ⟨by unfold inR; omega, fun hf0 => ?_, fun hf1 => ih (j + 1) (by omega) σ' zs' hL' (fun o ho hro => ?_)⟩
      · have k := hK σ' (linv_b hC hS (by omega) hL')
        have hn : ¬ ∃ z, OutZ (vS σ c) (vV σ c) 0 z ∧ ∀ w, w < cn_ σ c → 0 < z w 2 := by
          rintro ⟨z, ⟨zs2, hr2, e2⟩, hal⟩
          have q := hal w hw
          have e3 : zs2 (j + 1) = zs' (j + 1) := RunZ_u hr2 hL'.1 (j + 1) (show j + 1 ≤ cn_ σ c by omega) (Nat.le_refl _) (show j + 1 ≤ cn_ σ c by omega)
          have e4 := runz_keep hr2 (Nat.le_refl _) (w := w) (j := j + 1) (by omega) (cn_ σ c - (j + 1)) (show j + 1 + (cn_ σ c - (j + 1)) ≤ cn_ σ c by omega) 2
          rw [show j + 1 + (cn_ σ c - (j + 1)) = cn_ σ c by omega, e3] at e4
          rw [e2] at q
          have q' : 0 < zs2 (cn_ σ c) w 2 := q
          have := hfz.mpr (by omega)
          omega
        rw [bi_f hn] at k
        exact k
      · by_cases q : o = w
        · subst q; exact hfz.mp (by omega)
        · have ne : rkV (vS σ c) (vV σ c) o ≠ j := fun z => q (rk_inj (wt := wtv σ c) ho hw (z.trans hr.symm))
          have e4 := runz_keep hL'.1 (show j + 1 ≤ cn_ σ c by omega) (w := o) (j := j) (by omega) 1 (by omega) 2
          rw [e4, hz j (by omega)]
          exact hall o ho (by omega)
  show G 0 [vr 4 0, vr 1 c, vj] [] σ 0
  refine run hG [7] 60 ?_
  simp only [wpn_s, wpn_0, br_T, br_F, st1, st2, true_and, and_true, ↓reduceIte, if_true, if_false, List.contains_nil, List.contains_cons, Bool.or_false, Bool.or_true, Bool.true_or, Bool.false_or, Bool.false_eq_true, bit_0, bit_1, bit_b, true_or, or_true, or_false, false_or, up_e, up_nc, up_nj, ne_eq, not_false_eq_true, not_true_eq_false, inR_n, inR_m1, bi_RT, br_bi, Nat.reduceAdd, Nat.reduceLT, Nat.reduceLeDiff, Nat.reduceEqDiff, Nat.reduceBEq, Nat.zero_le, Int.reduceAdd, Int.reduceNeg, Int.reduceLE, Int.reduceLT, Int.reduceToNat, Int.reduceNatCast, Int.reduceEq, Int.reduceSub, Int.reduceMul, set_0, set_s, len_c, len_n, nc2_0, nc2_1i, nc2_1r, nc2_1j, nc2_s, rcv_e, take_c, take_z, drop_c, drop_z, rev_c, rev_n, app_c, app_n, tol_s, tol_n, Nat.le_refl, s1i_e, s2i_e, s1r_e, sir_e, siir_e, srir_e, c1_i, c1_r, s1v_e, s2v_e, ldv_0, ldv_s, ldx_0, ldx_s, ldi_0, ldi_s, ldr_0, ldr_s, fg_0_0, fg_0_1, fg_0_2, fg_0_3, fg_0_4, fg_0_5, fg_1_0, fg_1_1, fg_1_2, fg_1_3, fg_1_4, fg_1_5, fg_1_6, fg_1_7, fg_2_0, fg_2_1, fg_2_2, fg_2_3, fg_2_4, fg_2_5, fg_3_0, fg_3_1, fg_4_0, fg_4_1, fg_4_2, fg_4_3, fg_4_4, fg_4_5, fg_5_0, fg_5_1, fg_5_2, fg_5_3, fg_5_4, fg_5_5, fg_5_6, fg_6_0, fg_6_1, fg_6_2, fg_6_3, fg_7_0, fg_7_1, fg_7_2, fg_7_3, fg_7_4, fg_7_5, fg_8_0, fg_8_1, fg_8_2, fg_8_3, fg_8_4, fg_8_5, fg_8_6, fg_8_7, fg_8_8, fg_8_9, fg_8_10, fg_8_11, fg_8_12, fg_8_13, cnt_0, cnt_1, cnt_2, cnt_3, cnt_4, cnt_5, cnt_6, cnt_7, cnt_8, cnt_9, cnt_10, cnt_11, cnt_12, cnt_13, cnt_14, fk, rd, al_9, al_10, al_11, al_13, al_12_0, al_12_1, al_12_2, al_12_3, al_12_4, al_12_5, al_12_6, al_12_7, al_12_8, al_12_9, al_12_10, al_12_11, stepd_ok dX4_canLayEveryWord_0, sf_aload_n0, stepd_ok dX4_canLayEveryWord_1, sf_aload_n1, stepd_ok dX4_canLayEveryWord_2, sf_inv (P := pr_X4_canLayEveryWord) ca_X4_canLayEveryWord_32 rfl, stepd_ok dX4_canLayEveryWord_5, sf_iconst, stepd_ok dX4_canLayEveryWord_6, sf_istore_n2, stepd_ok dX4_canLayEveryWord_7, sf_iload_n2, stepd_ok dX4_canLayEveryWord_8, stepd_ok dX4_canLayEveryWord_9, sf_getfield (P := pr_X4_canLayEveryWord) ftX4_36, stepd_ok dX4_canLayEveryWord_12, jk_at (pc := 12) (off := 26) (t := 38) rfl, jo_at (pc := 12) (off := 26) (t := 38) rfl, sf_if_icmp_ge, stepd_ok dX4_canLayEveryWord_15, stepd_ok dX4_canLayEveryWord_16, stepd_ok dX4_canLayEveryWord_17, stepd_ok dX4_canLayEveryWord_18, sf_getfield (P := pr_X4_canLayEveryWord) ftX4_9, stepd_ok dX4_canLayEveryWord_21, stepd_ok dX4_canLayEveryWord_22, sf_iaload, stepd_ok dX4_canLayEveryWord_23, stepd_ok dX4_canLayEveryWord_24, sf_inv (P := pr_X4_canLayEveryWord) ca_X4_canLayEveryWord_42 rfl, stepd_ok dX4_canLayEveryWord_27, jk_at (pc := 27) (off := 5) (t := 32) rfl, jo_at (pc := 27) (off := 5) (t := 32) rfl, sf_ifCond_ne, stepd_ok dX4_canLayEveryWord_30, stepd_ok dX4_canLayEveryWord_31, stepd_ok dX4_canLayEveryWord_32, sf_iinc, stepd_ok dX4_canLayEveryWord_35, jk_at (pc := 35) (off := -28) (t := 7) rfl, sf_goto, stepd_ok dX4_canLayEveryWord_38, stepd_ok dX4_canLayEveryWord_39, sf_iret2 (P := pr_X4_canLayEveryWord) rfl rfl, sp_X4_begin_e, sp_X4_layWord_e, Nat.zero_lt_one, hc, hP, hC]
  intro σ' hf h4 h7 h0 ho
  exact loop (cn_ σ c) 0 (by omega) σ' _ (linv_0 hB hP hC hc hm hf h4 h7 h0 ho) (fun w hw h => absurd h (by have := (rkV_r hw).1; omega))
theorem cn_X4_canLayEveryWord (l : Launch) (Γ : Ga) : Cn l Γ yX4_canLayEveryWord (wsy yX4_canLayEveryWord cX4_canLayEveryWord 3 (some .boolean)) rm_X4_canLayEveryWord 0 sp_X4_canLayEveryWord := Cn_of (P := pr_X4_canLayEveryWord) (own := RX4) (by decide) rfl rfl (by decide) rfl ⟨rfl, rfl⟩ ftX4_ok (List.forall_mem_cons.mpr ⟨callV_of (rc := 4) (cn_X4_begin l Γ) rfl rfl (List.forall_mem_cons.mpr ⟨wl_X4_32, fun _ h => wm_X4_begin h⟩) ⟨rfl, by decide, by decide, by decide +kernel⟩ ⟨by decide, by decide⟩, List.forall_mem_cons.mpr ⟨callV_of (rc := 4) (cn_X4_layWord l Γ) rfl rfl (List.forall_mem_cons.mpr ⟨wl_X4_42, fun _ h => wm_X4_layWord h⟩) ⟨rfl, by decide, by decide, by decide +kernel⟩ ⟨by decide, by decide⟩, fun _ h => (List.not_mem_nil h).elim⟩⟩) (fun _ h => (List.not_mem_nil h).elim) (fun _ _ _ _ _ _ _ _ _ _ q hq => (List.not_mem_nil hq).elim) sem_X4_canLayEveryWord
