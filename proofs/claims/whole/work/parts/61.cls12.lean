def sp_X7_covered : Spec := fun a σ K KX => ∃ (q : Nat), a = [vr 7 q] ∧ (q < 1 ∧ CI σ ∧ ∀ σ', Fr13 σ σ' → K (some (vd (FP.ddiv (FP.i2d (Int32.ofInt (extV (vS σ 0) (vV σ 0) 0))) (FP.i2d (Int32.ofInt (vS σ 0 0 * vS σ 0 1)))))) σ')
theorem sp_X7_covered_e {q : Nat} {σ : Sto} {K : Option AV → Sto → Prop} {KX : Nat → Sto → Prop} : sp_X7_covered [vr 7 q] σ K KX = (q < 1 ∧ CI σ ∧ ∀ σ', Fr13 σ σ' → K (some (vd (FP.ddiv (FP.i2d (Int32.ofInt (extV (vS σ 0) (vV σ 0) 0))) (FP.i2d (Int32.ofInt (vS σ 0 0 * vS σ 0 1)))))) σ') := propext ⟨fun h => by obtain ⟨_, h, hb⟩ := h; cases h; exact hb, fun hb => ⟨_, rfl, hb⟩⟩
def pr_X7_covered : Par := (ftX7, [(184, (1, 0, 7 + 1, sp_X7_countCoveredCells))], [], [], 4, 0, none)
def rm_X7_covered : Room := { frames := 4, cells := 0, slots := 0, locals := 88 }
theorem ca_X7_covered_184 : List.lookup 184 pr_X7_covered.2.1 = some (1, 0, 7 + 1, sp_X7_countCoveredCells) := rfl
set_option maxRecDepth 100000 in
set_option maxHeartbeats 4000000 in
theorem sem_X7_covered : Sem pr_X7_covered cX7_covered 2 sp_X7_covered := by
  rintro a σ K KX ⟨q, rfl, hq, hC, hK⟩
  refine ⟨by simp [vr, vi, nj], Nat.le_of_ble_eq_true rfl, fun G hG => ?_⟩
  have hq0 : q = 0 := by omega
  subst hq0
  have z6 : (0 : Nat) < 6 := by omega
  obtain ⟨s1, s2, -⟩ := hC.2.2.2.1
  have hpos : 0 < σ 1 0 2 * σ 1 0 3 := Int.mul_pos (by omega) (by omega)
  have hle : σ 1 0 2 * σ 1 0 3 ≤ 80 * 50 := Int.mul_le_mul s1.2 s2.2 (by omega) (by omega)
  have hr : inR (σ 1 0 2 * σ 1 0 3) := by unfold inR; omega
  have hn := celN_r (V := vV σ 0) (S := vS σ 0) (by have : vS σ 0 0 = σ 1 0 2 := rfl; omega) (σ 1 0 3).toNat
  have n64 := fl_n64 (n := celN (vS σ 0) (vV σ 0) (σ 1 0 3).toNat) (m := σ 1 0 2 * σ 1 0 3) hn.1 (by omega) hpos (by omega)
  show G 0 [vr 7 0, vj] [] σ 0
  refine run hG [] 60 ?_
  simp only [wpn_s, wpn_0, br_T, br_F, st1, st2, true_and, and_true, ↓reduceIte, if_true, if_false, List.contains_nil, List.contains_cons, Bool.or_false, Bool.or_true, Bool.true_or, Bool.false_or, Bool.false_eq_true, bit_0, bit_1, bit_b, true_or, or_true, or_false, false_or, up_e, up_nc, up_nj, ne_eq, not_false_eq_true, not_true_eq_false, inR_n, inR_m1, bi_RT, br_bi, Nat.reduceAdd, Nat.reduceLT, Nat.reduceLeDiff, Nat.reduceEqDiff, Nat.reduceBEq, Nat.zero_le, Int.reduceAdd, Int.reduceNeg, Int.reduceLE, Int.reduceLT, Int.reduceToNat, Int.reduceNatCast, Int.reduceEq, Int.reduceSub, Int.reduceMul, set_0, set_s, len_c, len_n, nc2_0, nc2_1i, nc2_1r, nc2_1j, nc2_s, rcv_e, take_c, take_z, drop_c, drop_z, rev_c, rev_n, app_c, app_n, tol_s, tol_n, Nat.le_refl, s1i_e, s2i_e, s1r_e, sir_e, siir_e, srir_e, c1_i, c1_r, s1v_e, s2v_e, ldv_0, ldv_s, ldx_0, ldx_s, ldi_0, ldi_s, ldr_0, ldr_s, s1d_e, s2d_e, ldd_0, ldd_s, fg_0_0, fg_0_1, fg_0_2, fg_0_3, fg_0_4, fg_0_5, fg_1_0, fg_1_1, fg_1_2, fg_1_3, fg_1_4, fg_1_5, fg_1_6, fg_1_7, fg_2_0, fg_2_1, fg_2_2, fg_2_3, fg_2_4, fg_2_5, fg_3_0, fg_3_1, fg_4_0, fg_4_1, fg_4_2, fg_4_3, fg_4_4, fg_4_5, fg_5_0, fg_5_1, fg_5_2, fg_5_3, fg_5_4, fg_5_5, fg_5_6, fg_6_0, fg_6_1, fg_6_2, fg_6_3, fg_7_0, fg_7_1, fg_7_2, fg_7_3, fg_7_4, fg_7_5, fg_8_0, fg_8_1, fg_8_2, fg_8_3, fg_8_4, fg_8_5, fg_8_6, fg_8_7, fg_8_8, fg_8_9, fg_8_10, fg_8_11, fg_8_12, fg_8_13, cnt_0, cnt_1, cnt_2, cnt_3, cnt_4, cnt_5, cnt_6, cnt_7, cnt_8, cnt_9, cnt_10, cnt_11, cnt_12, cnt_13, cnt_14, fk, stepd_ok dX7_covered_0, sf_aload_n0, stepd_ok dX7_covered_1, sf_getfield (P := pr_X7_covered) ftX7_19, stepd_ok dX7_covered_4, sf_getfield (P := pr_X7_covered) ftX7_105, stepd_ok dX7_covered_7, stepd_ok dX7_covered_8, stepd_ok dX7_covered_11, sf_getfield (P := pr_X7_covered) ftX7_108, stepd_ok dX7_covered_14, sf_imul, stepd_ok dX7_covered_15, sf_istore_n1, stepd_ok dX7_covered_16, sf_iload_n1, stepd_ok dX7_covered_17, jk_at (pc := 17) (off := 14) (t := 31) rfl, jo_at (pc := 17) (off := 14) (t := 31) rfl, sf_ifCond_le, stepd_ok dX7_covered_20, stepd_ok dX7_covered_21, sf_inv (P := pr_X7_covered) ca_X7_covered_184 rfl, stepd_ok dX7_covered_24, sf_i2d, stepd_ok dX7_covered_25, stepd_ok dX7_covered_26, stepd_ok dX7_covered_27, sf_ddiv, stepd_ok dX7_covered_28, jk_at (pc := 28) (off := 4) (t := 32) rfl, sf_goto, stepd_ok dX7_covered_31, stepd_ok dX7_covered_32, sf_dret (P := pr_X7_covered) rfl rfl, sp_X7_countCoveredCells_e, Nat.zero_lt_one, z6, hr, hpos, hC, n64]
  intro σ' hf
  have k := hK σ' hf
  have e : extV (vS σ 0) (vV σ 0) 0 = celN (vS σ 0) (vV σ 0) (σ 1 0 3).toNat := by unfold extV; rw [if_pos rfl]; rfl
  rw [e] at k
  exact k
theorem cn_X7_covered (l : Launch) (Γ : Ga) : Cn l Γ yX7_covered (wsy yX7_covered cX7_covered 2 (some .double)) rm_X7_covered 0 sp_X7_covered := Cn_of (P := pr_X7_covered) (own := RX7) (by decide) rfl rfl (by decide) rfl ⟨rfl, rfl⟩ ftX7_ok (List.forall_mem_cons.mpr ⟨callV_of (rc := 7) (cn_X7_countCoveredCells l Γ) rfl rfl (List.forall_mem_cons.mpr ⟨wl_X7_184, fun _ h => wm_X7_countCoveredCells h⟩) ⟨rfl, by decide, by decide, by decide +kernel⟩ ⟨by decide, by decide⟩, fun _ h => (List.not_mem_nil h).elim⟩) (fun _ h => (List.not_mem_nil h).elim) (fun _ _ _ _ _ _ _ _ _ _ q hq => (List.not_mem_nil hq).elim) sem_X7_covered
def stS (S : Nat → Int) (a : Nat) (x : Int) : Nat → Int := fun k => if k = a then x else S k
theorem stS_n {S : Nat → Int} {a : Nat} {x : Int} (h : a ≠ 5) : nS (stS S a x) = nS S := by unfold nS stS; rw [if_neg (Ne.symm h)]
def NarP (S : Nat → Int) (V : Nat → Nat → Int) (i : Nat) : Prop := ∃ z, OutZ (stS S 0 (10 + 5 * i)) V 0 z ∧ ∀ w, w < nS S → 0 < z w 2
def NarQ (S : Nat → Int) (V : Nat → Nat → Int) (r : Int) : Prop := ∃ i : Int, FF (NarP S V) 15 i ∧ r = if i = -1 then -1 else 10 + 5 * i
def BstP (S : Nat → Int) (V : Nat → Nat → Int) (j : Nat) (x : Int) : Prop := ∃ z, OutZ (stS S 3 j) V 0 z ∧ x = ct (fun w => 0 < z w 2) (nS S)
def BstQ (S : Nat → Int) (V : Nat → Nat → Int) (b : Int) : Prop := ∃ (f : Nat → Int) (a : Nat), b = a ∧ 1 ≤ a ∧ a < 5 ∧ (∀ j, 1 ≤ j → j < 5 → BstP S V j (f j)) ∧ (∀ j, 1 ≤ j → j < 5 → f j ≤ f a) ∧ ∀ j, 1 ≤ j → j < a → f j < f a
/-- the trial between questions: as the cloud, but for setting a, the places and the moved -/
def TrS (σ τ : Sto) (a : Nat) : Prop := TrP σ τ ∧ ClOK τ 1 ∧ SetOK τ 1 ∧ cn_ τ 1 = cn_ σ 0 ∧ (∀ k, k < 6 → k ≠ a → vS τ 1 k = vS σ 0 k) ∧ VEq (cn_ σ 0) 14 (vV σ 0) (vV τ 1)
theorem vS_k {σ : Sto} {c k : Nat} (h : k < 5) : vS σ c k = σ 1 c (k + 2) := by
  rcases (show k = 0 ∨ k = 1 ∨ k = 2 ∨ k = 3 ∨ k = 4 by omega) with e | e | e | e | e <;> subst e <;> rfl
theorem vS_5 {σ : Sto} {c : Nat} : vS σ c 5 = σ 1 c 1 := rfl
theorem vS_6 {σ : Sto} {c : Nat} : vS σ c 6 = σ 1 c 7 := rfl
theorem trS_cp {σ τ : Sto} {a : Nat} (hC : CI σ) (hcp : CldCp σ τ 1 0) : TrS σ τ a := by
  have f := hcp.2.2.1
  have hcl := cldcp_cl hC.2.2.1 hcp
  have vw := cld_view hcp
  refine ⟨⟨fun c' i k p1 p2 p3 p4 p5 p6 => f c' i k (by omega) (by omega), cldcp_phy hC.1 hcp, boxp_g hcp.2.2.2 hC.2.1, ?_⟩, hcl.1, hcl.2.1 hC.2.2.2.1, hcl.2.2, fun k hk _ => vw.1 k, VEq_m vw.2 (by omega)⟩
  rw [f 4 0 5 (by omega) (by omega)]; exact hC.2.2.2.2.2.2.2
theorem trS_up {σ τ : Sto} {a : Nat} {x : Int} (h : TrS σ τ a) (ha : a < 5) (hS : SetOK (up3 τ 1 1 (a + 2) x) 1) : TrS σ (up3 τ 1 1 (a + 2) x) a ∧ SEq (stS (vS σ 0) a x) (vS (up3 τ 1 1 (a + 2) x) 1) := by
  obtain ⟨⟨t1, t2, t3, t4⟩, hcl, -, hn, hs, hv⟩ := h
  have u : ∀ c' i k : Nat, (c' ≠ 1 ∨ i ≠ 1) → up3 τ 1 1 (a + 2) x c' i k = τ c' i k := fun c' i k h => up_k (by omega)
  have u1 : ∀ k, k ≠ a + 2 → up3 τ 1 1 (a + 2) x 1 1 k = τ 1 1 k := fun k h => up_nj h
  have es : ∀ k, k < 6 → k ≠ a → vS (up3 τ 1 1 (a + 2) x) 1 k = vS τ 1 k := by
    intro k hk hka
    rcases Nat.lt_or_ge k 5 with q | q
    · rw [vS_k q, vS_k q, u1 _ (by omega)]
    · have : k = 5 := by omega
      subst this
      rw [vS_5, vS_5, u1 _ (by omega)]
  refine ⟨⟨⟨fun c' i k p1 p2 p3 p4 p5 p6 => ?_, phy_congr (fun c i k h => u c i k (by omega)) t2, fun e he h0 => ?_, ?_⟩, cl_congr (u1 1 (by omega)) (fun k => u 9 1 k (by omega)) (fun i hi c' k h => u c' _ k (by omega)) hcl, hS, ?_, fun k hk hka => ?_, ?_⟩, fun k hk => ?_⟩
  · rw [u c' i k (by omega)]; exact t1 c' i k p1 p2 p3 p4 p5 p6
  · rw [u 0 e _ (by omega)] at h0
    rw [u 0 e _ (by omega), u 0 e _ (by omega), u 0 e _ (by omega), u 0 e _ (by omega)]
    exact t3 e he h0
  · rw [u 4 0 5 (by omega)]; exact t4
  · unfold cn_ at hn ⊢; rw [u1 1 (by omega)]; exact hn
  · rw [es k hk hka]; exact hs k hk hka
  · rw [vV_up1]; exact hv
  · unfold stS
    by_cases e : k = a
    · rw [if_pos e, e, vS_k ha, up_e]
    · rw [if_neg e, es k hk e]; exact hs k hk e
theorem trS_lay {σ τ σ' : Sto} {a : Nat} (h : TrS σ τ a) (hL : LayB τ σ' 1) : TrS σ σ' a := by
  obtain ⟨⟨t1, t2, t3, t4⟩, hcl, hso, hn, hs, hv⟩ := h
  obtain ⟨f, l1, l2, l3, l4, l5⟩ := hL
  have f1 : ∀ k, k ≠ 7 → σ' 1 1 k = τ 1 1 k := fun k hk => f 1 1 k (by omega) (by omega) (by omega) (by omega) (by omega)
  have f9 : ∀ c' k, σ' 9 c' k = τ 9 c' k := fun c' k => f 9 c' k (by omega) (by omega) (by omega) (by omega) (by omega)
  have f2 : ∀ c' k, σ' 2 c' k = τ 2 c' k := fun c' k => f 2 c' k (by omega) (by omega) (by omega) (by omega) (by omega)
  have f10 : ∀ c' k, σ' 10 c' k = τ 10 c' k := fun c' k => f 10 c' k (by omega) (by omega) (by omega) (by omega) (by omega)
  refine ⟨⟨fun c' i k p1 p2 p3 p4 p5 p6 => ?_, l1, l5, l4⟩, l2, l3, ?_, fun k hk hka => ?_, fun w hw k hk => ?_⟩
  · rw [f c' i k (by omega) p4 p5 p6 (by omega)]; exact t1 c' i k p1 p2 p3 p4 p5 p6
  · unfold cn_ at hn ⊢; rw [f1 1 (by omega)]; exact hn
  · rw [← hs k hk hka]
    rcases Nat.lt_or_ge k 5 with q | q
    · rw [vS_k q, vS_k q, f1 _ (by omega)]
    · have : k = 5 := by omega
      subst this
      rw [vS_5, vS_5, f1 _ (by omega)]
  · rw [← hv w hw k hk]
    have e : en σ' 1 w = en τ 1 w := by unfold en; rw [f9]
    unfold vV
    rw [e, f2, f10, f2]
    by_cases h0 : k = 0
    · rw [if_pos h0, if_pos h0]
    · rw [if_neg h0, if_neg h0]
      by_cases h1 : k < 11
      · rw [if_pos h1, if_pos h1]
      · rw [if_neg h1, if_neg h1, if_pos (by omega), if_pos (by omega)]
theorem ff_s {P : Nat → Prop} {n : Nat} {r : Int} (h : FF P n r) : r = -1 ∨ 0 ≤ r := by
  rcases h with h | ⟨i, _, h, _⟩ <;> omega
def sp_X7_narrowest : Spec := fun a σ K KX => ∃ (q : Nat), a = [vr 7 q] ∧ (q < 1 ∧ CI σ ∧ ∀ r σ', NarQ (vS σ 0) (vV σ 0) r → TrP σ σ' → K (some (vi r)) σ')
theorem sp_X7_narrowest_e {q : Nat} {σ : Sto} {K : Option AV → Sto → Prop} {KX : Nat → Sto → Prop} : sp_X7_narrowest [vr 7 q] σ K KX = (q < 1 ∧ CI σ ∧ ∀ r σ', NarQ (vS σ 0) (vV σ 0) r → TrP σ σ' → K (some (vi r)) σ') := propext ⟨fun h => by obtain ⟨_, h, hb⟩ := h; cases h; exact hb, fun hb => ⟨_, rfl, hb⟩⟩
def pr_X7_narrowest : Par := (ftX7, [(85, (2, 0, 1 + 1, sp_X1_copyFrom)), (208, (2, 0, 4 + 1, sp_X4_canLayEveryWord))], [], [], 1, 0, none)
def rm_X7_narrowest : Room := { frames := 6, cells := 0, slots := 0, locals := 142 }
theorem ca_X7_narrowest_85 : List.lookup 85 pr_X7_narrowest.2.1 = some (2, 0, 1 + 1, sp_X1_copyFrom) := rfl
theorem ca_X7_narrowest_208 : List.lookup 208 pr_X7_narrowest.2.1 = some (2, 0, 4 + 1, sp_X4_canLayEveryWord) := rfl
set_option maxRecDepth 100000 in
set_option maxHeartbeats 4000000 in
theorem sem_X7_narrowest : Sem pr_X7_narrowest cX7_narrowest 2 sp_X7_narrowest := by
  rintro a σ K KX ⟨q, rfl, hq, hC, hK⟩
  refine ⟨by simp [vr, vi, nj], Nat.le_of_ble_eq_true rfl, fun G hG => ?_⟩
  have hq0 : q = 0 := by omega
  subst hq0
  have hP := hC.1
  have hCl := hC.2.2.1
  have z6 : (0 : Nat) < 6 := by omega
  have o6 : (1 : Nat) < 6 := by omega
  have o0 : ¬ ((1 : Nat) = 0) := by omega
  have loop : ∀ (n i : Nat) (τ : Sto), i + n = 15 → TrS σ τ 0 → (∀ j, j < i → ¬ NarP (vS σ 0) (vV σ 0) j) → G 14 [vr 7 0, vi (10 + 5 * i)] [] τ 0 := by
    intro n
    induction n with
    | zero =>
      intro i τ hi hT hno
      have ri : inR (10 + 5 * (i : Int)) := by unfold inR; omega
      have gt : (80 : Int) < 10 + 5 * i := by omega
      refine run hG [] 60 ?_
      simp only [wpn_s, wpn_0, br_T, br_F, st1, st2, true_and, and_true, ↓reduceIte, if_true, if_false, List.contains_nil, List.contains_cons, Bool.or_false, Bool.or_true, Bool.true_or, Bool.false_or, Bool.false_eq_true, bit_0, bit_1, bit_b, true_or, or_true, or_false, false_or, up_e, up_nc, up_nj, ne_eq, not_false_eq_true, not_true_eq_false, inR_n, inR_m1, bi_RT, br_bi, Nat.reduceAdd, Nat.reduceLT, Nat.reduceLeDiff, Nat.reduceEqDiff, Nat.reduceBEq, Nat.zero_le, Int.reduceAdd, Int.reduceNeg, Int.reduceLE, Int.reduceLT, Int.reduceToNat, Int.reduceNatCast, Int.reduceEq, Int.reduceSub, Int.reduceMul, set_0, set_s, len_c, len_n, nc2_0, nc2_1i, nc2_1r, nc2_1j, nc2_s, rcv_e, take_c, take_z, drop_c, drop_z, rev_c, rev_n, app_c, app_n, tol_s, tol_n, Nat.le_refl, s1i_e, s2i_e, s1r_e, sir_e, siir_e, srir_e, c1_i, c1_r, s1v_e, s2v_e, ldv_0, ldv_s, ldx_0, ldx_s, ldi_0, ldi_s, ldr_0, ldr_s, fg_0_0, fg_0_1, fg_0_2, fg_0_3, fg_0_4, fg_0_5, fg_1_0, fg_1_1, fg_1_2, fg_1_3, fg_1_4, fg_1_5, fg_1_6, fg_1_7, fg_2_0, fg_2_1, fg_2_2, fg_2_3, fg_2_4, fg_2_5, fg_3_0, fg_3_1, fg_4_0, fg_4_1, fg_4_2, fg_4_3, fg_4_4, fg_4_5, fg_5_0, fg_5_1, fg_5_2, fg_5_3, fg_5_4, fg_5_5, fg_5_6, fg_6_0, fg_6_1, fg_6_2, fg_6_3, fg_7_0, fg_7_1, fg_7_2, fg_7_3, fg_7_4, fg_7_5, fg_8_0, fg_8_1, fg_8_2, fg_8_3, fg_8_4, fg_8_5, fg_8_6, fg_8_7, fg_8_8, fg_8_9, fg_8_10, fg_8_11, fg_8_12, fg_8_13, cnt_0, cnt_1, cnt_2, cnt_3, cnt_4, cnt_5, cnt_6, cnt_7, cnt_8, cnt_9, cnt_10, cnt_11, cnt_12, cnt_13, cnt_14, fk, stepd_ok dX7_narrowest_0, sf_aload_n0, stepd_ok dX7_narrowest_1, sf_getfield (P := pr_X7_narrowest) ftX7_23, stepd_ok dX7_narrowest_4, stepd_ok dX7_narrowest_5, sf_getfield (P := pr_X7_narrowest) ftX7_19, stepd_ok dX7_narrowest_8, sf_inv (P := pr_X7_narrowest) ca_X7_narrowest_85 rfl, stepd_ok dX7_narrowest_11, sf_bipush, stepd_ok dX7_narrowest_13, sf_istore_n1, stepd_ok dX7_narrowest_14, sf_iload_n1, stepd_ok dX7_narrowest_15, stepd_ok dX7_narrowest_17, jk_at (pc := 17) (off := 33) (t := 50) rfl, jo_at (pc := 17) (off := 33) (t := 50) rfl, sf_if_icmp_gt, stepd_ok dX7_narrowest_20, stepd_ok dX7_narrowest_21, stepd_ok dX7_narrowest_24, stepd_ok dX7_narrowest_25, sf_putfield (P := pr_X7_narrowest) ftX7_105, stepd_ok dX7_narrowest_28, stepd_ok dX7_narrowest_29, sf_getfield (P := pr_X7_narrowest) ftX7_36, stepd_ok dX7_narrowest_32, stepd_ok dX7_narrowest_33, stepd_ok dX7_narrowest_36, sf_inv (P := pr_X7_narrowest) ca_X7_narrowest_208 rfl, stepd_ok dX7_narrowest_39, jk_at (pc := 39) (off := 5) (t := 44) rfl, jo_at (pc := 39) (off := 5) (t := 44) rfl, sf_ifCond_eq, stepd_ok dX7_narrowest_42, stepd_ok dX7_narrowest_43, stepd_ok dX7_narrowest_44, sf_iinc, stepd_ok dX7_narrowest_47, jk_at (pc := 47) (off := -33) (t := 14) rfl, sf_goto, stepd_ok dX7_narrowest_50, sf_iconst, stepd_ok dX7_narrowest_51, sf_iret1 (P := pr_X7_narrowest) rfl rfl, sp_X1_copyFrom_e, sp_X4_canLayEveryWord_e, ri, gt]
      exact hK _ τ ⟨-1, Or.inl ⟨rfl, fun j hj => hno j (by omega)⟩, by simp⟩ hT.1
    | succ n ih =>
      intro i τ hi hT hno
      have ri : inR (10 + 5 * (i : Int)) := by unfold inR; omega
      have ng : ¬ (80 : Int) < 10 + 5 * i := by omega
      have hS2 : SetOK (up3 τ 1 1 2 (10 + 5 * i)) 1 := by
        have := hT.2.2.1
        unfold SetOK at this ⊢
        rw [up_e, up_nj (by omega), up_nj (by omega), up_nj (by omega), up_nj (by omega), up_nj (by omega)]
        exact ⟨by omega, this.2⟩
      obtain ⟨hT2, hSE⟩ := trS_up (a := 0) (x := 10 + 5 * i) hT (by omega) hS2
      have hP2 := hT2.1.2.1
      have hB2 := hT2.1.2.2.1
      have h45 := hT2.1.2.2.2
      have hC2 := hT2.2.1
      have key : ∀ σ', LayB (up3 τ 1 1 2 (10 + 5 * i)) σ' 1 → TrS σ σ' 0 := fun σ' hL => trS_lay hT2 hL
      have ez : ∀ z, OutZ (vS (up3 τ 1 1 2 (10 + 5 * i)) 1) (vV (up3 τ 1 1 2 (10 + 5 * i)) 1) 0 z ↔ OutZ (stS (vS σ 0) 0 (10 + 5 * i)) (vV σ 0) 0 z := fun z => out_iff (m := 14) hSE (by rw [stS_n (by omega)]; exact hT2.2.2.2.2.2) (by omega) (fun h => absurd h (by omega))
      have en_ : cn_ (up3 τ 1 1 2 (10 + 5 * i)) 1 = nS (vS σ 0) := hT2.2.2.2.1
      have eP : (∃ z, OutZ (vS (up3 τ 1 1 2 (10 + 5 * i)) 1) (vV (up3 τ 1 1 2 (10 + 5 * i)) 1) 0 z ∧ ∀ w, w < cn_ (up3 τ 1 1 2 (10 + 5 * i)) 1 → 0 < z w 2) ↔ NarP (vS σ 0) (vV σ 0) i := by
        unfold NarP
        rw [en_]
        constructor
        · rintro ⟨z, a, b⟩; exact ⟨z, (ez z).mp a, b⟩
        · rintro ⟨z, a, b⟩; exact ⟨z, (ez z).mpr a, b⟩
      refine run hG [14] 60 ?_
      simp only [wpn_s, wpn_0, br_T, br_F, st1, st2, true_and, and_true, ↓reduceIte, if_true, if_false, List.contains_nil, List.contains_cons, Bool.or_false, Bool.or_true, Bool.true_or, Bool.false_or, Bool.false_eq_true, bit_0, bit_1, bit_b, true_or, or_true, or_false, false_or, up_e, up_nc, up_nj, ne_eq, not_false_eq_true, not_true_eq_false, inR_n, inR_m1, bi_RT, br_bi, Nat.reduceAdd, Nat.reduceLT, Nat.reduceLeDiff, Nat.reduceEqDiff, Nat.reduceBEq, Nat.zero_le, Int.reduceAdd, Int.reduceNeg, Int.reduceLE, Int.reduceLT, Int.reduceToNat, Int.reduceNatCast, Int.reduceEq, Int.reduceSub, Int.reduceMul, set_0, set_s, len_c, len_n, nc2_0, nc2_1i, nc2_1r, nc2_1j, nc2_s, rcv_e, take_c, take_z, drop_c, drop_z, rev_c, rev_n, app_c, app_n, tol_s, tol_n, Nat.le_refl, s1i_e, s2i_e, s1r_e, sir_e, siir_e, srir_e, c1_i, c1_r, s1v_e, s2v_e, ldv_0, ldv_s, ldx_0, ldx_s, ldi_0, ldi_s, ldr_0, ldr_s, fg_0_0, fg_0_1, fg_0_2, fg_0_3, fg_0_4, fg_0_5, fg_1_0, fg_1_1, fg_1_2, fg_1_3, fg_1_4, fg_1_5, fg_1_6, fg_1_7, fg_2_0, fg_2_1, fg_2_2, fg_2_3, fg_2_4, fg_2_5, fg_3_0, fg_3_1, fg_4_0, fg_4_1, fg_4_2, fg_4_3, fg_4_4, fg_4_5, fg_5_0, fg_5_1, fg_5_2, fg_5_3, fg_5_4, fg_5_5, fg_5_6, fg_6_0, fg_6_1, fg_6_2, fg_6_3, fg_7_0, fg_7_1, fg_7_2, fg_7_3, fg_7_4, fg_7_5, fg_8_0, fg_8_1, fg_8_2, fg_8_3, fg_8_4, fg_8_5, fg_8_6, fg_8_7, fg_8_8, fg_8_9, fg_8_10, fg_8_11, fg_8_12, fg_8_13, cnt_0, cnt_1, cnt_2, cnt_3, cnt_4, cnt_5, cnt_6, cnt_7, cnt_8, cnt_9, cnt_10, cnt_11, cnt_12, cnt_13, cnt_14, fk, stepd_ok dX7_narrowest_0, sf_aload_n0, stepd_ok dX7_narrowest_1, sf_getfield (P := pr_X7_narrowest) ftX7_23, stepd_ok dX7_narrowest_4, stepd_ok dX7_narrowest_5, sf_getfield (P := pr_X7_narrowest) ftX7_19, stepd_ok dX7_narrowest_8, sf_inv (P := pr_X7_narrowest) ca_X7_narrowest_85 rfl, stepd_ok dX7_narrowest_11, sf_bipush, stepd_ok dX7_narrowest_13, sf_istore_n1, stepd_ok dX7_narrowest_14, sf_iload_n1, stepd_ok dX7_narrowest_15, stepd_ok dX7_narrowest_17, jk_at (pc := 17) (off := 33) (t := 50) rfl, jo_at (pc := 17) (off := 33) (t := 50) rfl, sf_if_icmp_gt, stepd_ok dX7_narrowest_20, stepd_ok dX7_narrowest_21, stepd_ok dX7_narrowest_24, stepd_ok dX7_narrowest_25, sf_putfield (P := pr_X7_narrowest) ftX7_105, stepd_ok dX7_narrowest_28, stepd_ok dX7_narrowest_29, sf_getfield (P := pr_X7_narrowest) ftX7_36, stepd_ok dX7_narrowest_32, stepd_ok dX7_narrowest_33, stepd_ok dX7_narrowest_36, sf_inv (P := pr_X7_narrowest) ca_X7_narrowest_208 rfl, stepd_ok dX7_narrowest_39, jk_at (pc := 39) (off := 5) (t := 44) rfl, jo_at (pc := 39) (off := 5) (t := 44) rfl, sf_ifCond_eq, stepd_ok dX7_narrowest_42, stepd_ok dX7_narrowest_43, stepd_ok dX7_narrowest_44, sf_iinc, stepd_ok dX7_narrowest_47, jk_at (pc := 47) (off := -33) (t := 14) rfl, sf_goto, stepd_ok dX7_narrowest_50, sf_iconst, stepd_ok dX7_narrowest_51, sf_iret1 (P := pr_X7_narrowest) rfl rfl, sp_X1_copyFrom_e, sp_X4_canLayEveryWord_e, ri, ng, Nat.zero_lt_one, o6, hP2, hC2, hS2, hB2]
      refine ⟨h45, fun σ' hL => ⟨fun hz => ?_, fun hz => ?_⟩⟩
      · exact hK _ σ' ⟨i, Or.inr ⟨i, by omega, rfl, eP.mp hz, hno⟩, by rw [if_neg (by omega)]⟩ (key σ' hL).1
      · have := ih (i + 1) σ' (by omega) (key σ' hL) (fun j hj => by
          rcases Nat.lt_succ_iff_lt_or_eq.mp hj with h | h
          · exact hno j h
          · subst h; exact fun z => hz (eP.mpr z))
        rw [show (10 + 5 * ((i + 1 : Nat) : Int)) = 10 + 5 * i + 5 by omega] at this
        exact this
  show G 0 [vr 7 0, vj] [] σ 0
  refine run hG [14] 60 ?_
  simp only [wpn_s, wpn_0, br_T, br_F, st1, st2, true_and, and_true, ↓reduceIte, if_true, if_false, List.contains_nil, List.contains_cons, Bool.or_false, Bool.or_true, Bool.true_or, Bool.false_or, Bool.false_eq_true, bit_0, bit_1, bit_b, true_or, or_true, or_false, false_or, up_e, up_nc, up_nj, ne_eq, not_false_eq_true, not_true_eq_false, inR_n, inR_m1, bi_RT, br_bi, Nat.reduceAdd, Nat.reduceLT, Nat.reduceLeDiff, Nat.reduceEqDiff, Nat.reduceBEq, Nat.zero_le, Int.reduceAdd, Int.reduceNeg, Int.reduceLE, Int.reduceLT, Int.reduceToNat, Int.reduceNatCast, Int.reduceEq, Int.reduceSub, Int.reduceMul, set_0, set_s, len_c, len_n, nc2_0, nc2_1i, nc2_1r, nc2_1j, nc2_s, rcv_e, take_c, take_z, drop_c, drop_z, rev_c, rev_n, app_c, app_n, tol_s, tol_n, Nat.le_refl, s1i_e, s2i_e, s1r_e, sir_e, siir_e, srir_e, c1_i, c1_r, s1v_e, s2v_e, ldv_0, ldv_s, ldx_0, ldx_s, ldi_0, ldi_s, ldr_0, ldr_s, fg_0_0, fg_0_1, fg_0_2, fg_0_3, fg_0_4, fg_0_5, fg_1_0, fg_1_1, fg_1_2, fg_1_3, fg_1_4, fg_1_5, fg_1_6, fg_1_7, fg_2_0, fg_2_1, fg_2_2, fg_2_3, fg_2_4, fg_2_5, fg_3_0, fg_3_1, fg_4_0, fg_4_1, fg_4_2, fg_4_3, fg_4_4, fg_4_5, fg_5_0, fg_5_1, fg_5_2, fg_5_3, fg_5_4, fg_5_5, fg_5_6, fg_6_0, fg_6_1, fg_6_2, fg_6_3, fg_7_0, fg_7_1, fg_7_2, fg_7_3, fg_7_4, fg_7_5, fg_8_0, fg_8_1, fg_8_2, fg_8_3, fg_8_4, fg_8_5, fg_8_6, fg_8_7, fg_8_8, fg_8_9, fg_8_10, fg_8_11, fg_8_12, fg_8_13, cnt_0, cnt_1, cnt_2, cnt_3, cnt_4, cnt_5, cnt_6, cnt_7, cnt_8, cnt_9, cnt_10, cnt_11, cnt_12, cnt_13, cnt_14, fk, stepd_ok dX7_narrowest_0, sf_aload_n0, stepd_ok dX7_narrowest_1, sf_getfield (P := pr_X7_narrowest) ftX7_23, stepd_ok dX7_narrowest_4, stepd_ok dX7_narrowest_5, sf_getfield (P := pr_X7_narrowest) ftX7_19, stepd_ok dX7_narrowest_8, sf_inv (P := pr_X7_narrowest) ca_X7_narrowest_85 rfl, stepd_ok dX7_narrowest_11, sf_bipush, stepd_ok dX7_narrowest_13, sf_istore_n1, stepd_ok dX7_narrowest_14, sf_iload_n1, stepd_ok dX7_narrowest_15, stepd_ok dX7_narrowest_17, jk_at (pc := 17) (off := 33) (t := 50) rfl, jo_at (pc := 17) (off := 33) (t := 50) rfl, sf_if_icmp_gt, stepd_ok dX7_narrowest_20, stepd_ok dX7_narrowest_21, stepd_ok dX7_narrowest_24, stepd_ok dX7_narrowest_25, sf_putfield (P := pr_X7_narrowest) ftX7_105, stepd_ok dX7_narrowest_28, stepd_ok dX7_narrowest_29, sf_getfield (P := pr_X7_narrowest) ftX7_36, stepd_ok dX7_narrowest_32, stepd_ok dX7_narrowest_33, stepd_ok dX7_narrowest_36, sf_inv (P := pr_X7_narrowest) ca_X7_narrowest_208 rfl, stepd_ok dX7_narrowest_39, jk_at (pc := 39) (off := 5) (t := 44) rfl, jo_at (pc := 39) (off := 5) (t := 44) rfl, sf_ifCond_eq, stepd_ok dX7_narrowest_42, stepd_ok dX7_narrowest_43, stepd_ok dX7_narrowest_44, sf_iinc, stepd_ok dX7_narrowest_47, jk_at (pc := 47) (off := -33) (t := 14) rfl, sf_goto, stepd_ok dX7_narrowest_50, sf_iconst, stepd_ok dX7_narrowest_51, sf_iret1 (P := pr_X7_narrowest) rfl rfl, sp_X1_copyFrom_e, sp_X4_canLayEveryWord_e, Nat.zero_lt_one, z6, o6, o0, hP, hCl]
  intro τ hcp
  exact loop 15 0 τ rfl (trS_cp hC hcp) (fun j hj => absurd hj (by omega))
theorem cn_X7_narrowest (l : Launch) (Γ : Ga) : Cn l Γ yX7_narrowest (wsy yX7_narrowest cX7_narrowest 2 (some .int)) rm_X7_narrowest 0 sp_X7_narrowest := Cn_of (P := pr_X7_narrowest) (own := RX7) (by decide) rfl rfl (by decide) rfl ⟨rfl, rfl⟩ ftX7_ok (List.forall_mem_cons.mpr ⟨callV_of (rc := 1) (cn_X1_copyFrom l Γ) rfl rfl (List.forall_mem_cons.mpr ⟨wl_X7_85, fun _ h => wm_X1_copyFrom h⟩) ⟨rfl, by decide, by decide, by decide +kernel⟩ ⟨by decide, by decide⟩, List.forall_mem_cons.mpr ⟨callV_of (rc := 4) (cn_X4_canLayEveryWord l Γ) rfl rfl (List.forall_mem_cons.mpr ⟨wl_X7_208, fun _ h => wm_X4_canLayEveryWord h⟩) ⟨rfl, by decide, by decide, by decide +kernel⟩ ⟨by decide, by decide⟩, fun _ h => (List.not_mem_nil h).elim⟩⟩) (fun _ h => (List.not_mem_nil h).elim) (fun _ _ _ _ _ _ _ _ _ _ q hq => (List.not_mem_nil hq).elim) sem_X7_narrowest
def sp_X7_bestStride : Spec := fun a σ K KX => ∃ (q : Nat), a = [vr 7 q] ∧ (q < 1 ∧ CI σ ∧ ∀ r σ', BstQ (vS σ 0) (vV σ 0) r → TrP σ σ' → K (some (vi r)) σ')
theorem sp_X7_bestStride_e {q : Nat} {σ : Sto} {K : Option AV → Sto → Prop} {KX : Nat → Sto → Prop} : sp_X7_bestStride [vr 7 q] σ K KX = (q < 1 ∧ CI σ ∧ ∀ r σ', BstQ (vS σ 0) (vV σ 0) r → TrP σ σ' → K (some (vi r)) σ') := propext ⟨fun h => by obtain ⟨_, h, hb⟩ := h; cases h; exact hb, fun hb => ⟨_, rfl, hb⟩⟩
def pr_X7_bestStride : Par := (ftX7, [(85, (2, 0, 1 + 1, sp_X1_copyFrom)), (144, (3, 0, 4 + 1, sp_X4_layAll))], [], [], 1, 0, none)
def rm_X7_bestStride : Room := { frames := 6, cells := 0, slots := 0, locals := 143 }
theorem ca_X7_bestStride_85 : List.lookup 85 pr_X7_bestStride.2.1 = some (2, 0, 1 + 1, sp_X1_copyFrom) := rfl
theorem ca_X7_bestStride_144 : List.lookup 144 pr_X7_bestStride.2.1 = some (3, 0, 4 + 1, sp_X4_layAll) := rfl
set_option maxRecDepth 100000 in
set_option maxHeartbeats 4000000 in
theorem sem_X7_bestStride : Sem pr_X7_bestStride cX7_bestStride 5 sp_X7_bestStride := by
  rintro a σ K KX ⟨q, rfl, hq, hC, hK⟩
  refine ⟨by simp [vr, vi, nj], Nat.le_of_ble_eq_true rfl, fun G hG => ?_⟩
  have hq0 : q = 0 := by omega
  subst hq0
  have hP := hC.1
  have hCl := hC.2.2.1
  have z6 : (0 : Nat) < 6 := by omega
  have o6 : (1 : Nat) < 6 := by omega
  have o0 : ¬ ((1 : Nat) = 0) := by omega
  have loop : ∀ (n i : Nat) (f : Nat → Int) (b : Nat) (τ : Sto) (v4 : AV), i + n = 5 → 1 ≤ i → (v4 = vj ∨ ∃ x, v4 = vi x) → TrS σ τ 3 → (∀ j, 1 ≤ j → j < i → BstP (vS σ 0) (vV σ 0) j (f j) ∧ 0 ≤ f j ∧ f j ≤ 24) → (f b = -1 ∧ i = 1 ∧ b = 1 ∨ (1 ≤ b ∧ b < i ∧ (∀ j, 1 ≤ j → j < i → f j ≤ f b) ∧ ∀ j, 1 ≤ j → j < b → f j < f b)) → G 17 [vr 7 0, vi b, vi (f b), vi i, v4] [] τ 0 := by
    intro n
    induction n with
    | zero =>
      intro i f b τ v4 hi hi1 hv4 hT hf hb
      have e5 : i = 5 := by omega
      obtain ⟨b1, b2, b3, b4⟩ := hb.resolve_left (by omega)
      have ri : inR (i : Int) := by unfold inR; omega
      have gt : (4 : Int) < i := by omega
      rw [e5] at b2 b3 hf
      refine run hG [] 60 ?_
      simp only [wpn_s, wpn_0, br_T, br_F, st1, st2, true_and, and_true, ↓reduceIte, if_true, if_false, List.contains_nil, List.contains_cons, Bool.or_false, Bool.or_true, Bool.true_or, Bool.false_or, Bool.false_eq_true, bit_0, bit_1, bit_b, true_or, or_true, or_false, false_or, up_e, up_nc, up_nj, ne_eq, not_false_eq_true, not_true_eq_false, inR_n, inR_m1, bi_RT, br_bi, Nat.reduceAdd, Nat.reduceLT, Nat.reduceLeDiff, Nat.reduceEqDiff, Nat.reduceBEq, Nat.zero_le, Int.reduceAdd, Int.reduceNeg, Int.reduceLE, Int.reduceLT, Int.reduceToNat, Int.reduceNatCast, Int.reduceEq, Int.reduceSub, Int.reduceMul, set_0, set_s, len_c, len_n, nc2_0, nc2_1i, nc2_1r, nc2_1j, nc2_s, rcv_e, take_c, take_z, drop_c, drop_z, rev_c, rev_n, app_c, app_n, tol_s, tol_n, Nat.le_refl, s1i_e, s2i_e, s1r_e, sir_e, siir_e, srir_e, c1_i, c1_r, s1v_e, s2v_e, ldv_0, ldv_s, ldx_0, ldx_s, ldi_0, ldi_s, ldr_0, ldr_s, fg_0_0, fg_0_1, fg_0_2, fg_0_3, fg_0_4, fg_0_5, fg_1_0, fg_1_1, fg_1_2, fg_1_3, fg_1_4, fg_1_5, fg_1_6, fg_1_7, fg_2_0, fg_2_1, fg_2_2, fg_2_3, fg_2_4, fg_2_5, fg_3_0, fg_3_1, fg_4_0, fg_4_1, fg_4_2, fg_4_3, fg_4_4, fg_4_5, fg_5_0, fg_5_1, fg_5_2, fg_5_3, fg_5_4, fg_5_5, fg_5_6, fg_6_0, fg_6_1, fg_6_2, fg_6_3, fg_7_0, fg_7_1, fg_7_2, fg_7_3, fg_7_4, fg_7_5, fg_8_0, fg_8_1, fg_8_2, fg_8_3, fg_8_4, fg_8_5, fg_8_6, fg_8_7, fg_8_8, fg_8_9, fg_8_10, fg_8_11, fg_8_12, fg_8_13, cnt_0, cnt_1, cnt_2, cnt_3, cnt_4, cnt_5, cnt_6, cnt_7, cnt_8, cnt_9, cnt_10, cnt_11, cnt_12, cnt_13, cnt_14, fk, stepd_ok dX7_bestStride_0, sf_aload_n0, stepd_ok dX7_bestStride_1, sf_getfield (P := pr_X7_bestStride) ftX7_23, stepd_ok dX7_bestStride_4, stepd_ok dX7_bestStride_5, sf_getfield (P := pr_X7_bestStride) ftX7_19, stepd_ok dX7_bestStride_8, sf_inv (P := pr_X7_bestStride) ca_X7_bestStride_85 rfl, stepd_ok dX7_bestStride_11, sf_iconst, stepd_ok dX7_bestStride_12, sf_istore_n1, stepd_ok dX7_bestStride_13, stepd_ok dX7_bestStride_14, sf_istore_n2, stepd_ok dX7_bestStride_15, stepd_ok dX7_bestStride_16, sf_istore_n3, stepd_ok dX7_bestStride_17, sf_iload_n3, stepd_ok dX7_bestStride_18, stepd_ok dX7_bestStride_19, jk_at (pc := 19) (off := 42) (t := 61) rfl, jo_at (pc := 19) (off := 42) (t := 61) rfl, sf_if_icmp_gt, stepd_ok dX7_bestStride_22, stepd_ok dX7_bestStride_23, stepd_ok dX7_bestStride_26, stepd_ok dX7_bestStride_27, sf_putfield (P := pr_X7_bestStride) ftX7_114, stepd_ok dX7_bestStride_30, stepd_ok dX7_bestStride_31, sf_getfield (P := pr_X7_bestStride) ftX7_36, stepd_ok dX7_bestStride_34, stepd_ok dX7_bestStride_35, stepd_ok dX7_bestStride_38, stepd_ok dX7_bestStride_39, sf_inv (P := pr_X7_bestStride) ca_X7_bestStride_144 rfl, stepd_ok dX7_bestStride_42, sf_istore, stepd_ok dX7_bestStride_44, sf_iload, stepd_ok dX7_bestStride_46, sf_iload_n2, stepd_ok dX7_bestStride_47, jk_at (pc := 47) (off := 8) (t := 55) rfl, jo_at (pc := 47) (off := 8) (t := 55) rfl, sf_if_icmp_le, stepd_ok dX7_bestStride_50, stepd_ok dX7_bestStride_52, stepd_ok dX7_bestStride_53, stepd_ok dX7_bestStride_54, stepd_ok dX7_bestStride_55, sf_iinc, stepd_ok dX7_bestStride_58, jk_at (pc := 58) (off := -41) (t := 17) rfl, sf_goto, stepd_ok dX7_bestStride_61, sf_iload_n1, stepd_ok dX7_bestStride_62, sf_iret1 (P := pr_X7_bestStride) rfl rfl, sp_X1_copyFrom_e, sp_X4_layAll_e, ri, gt]
      exact hK _ τ ⟨f, b, rfl, b1, b2, fun j h1 h2 => (hf j h1 h2).1, b3, b4⟩ hT.1
    | succ n ih =>
      intro i f b τ v4 hi hi1 hv4 hT hf hb
      have ri : inR (i : Int) := by unfold inR; omega
      have ng : ¬ (4 : Int) < i := by omega
      have hS2 : SetOK (up3 τ 1 1 5 i) 1 := by
        have := hT.2.2.1
        unfold SetOK at this ⊢
        rw [up_e, up_nj (by omega), up_nj (by omega), up_nj (by omega), up_nj (by omega), up_nj (by omega)]
        exact ⟨this.1, this.2.1, this.2.2.1, by omega, this.2.2.2.2⟩
      obtain ⟨hT2, hSE⟩ := trS_up (a := 3) (x := i) hT (by omega) hS2
      have hP2 := hT2.1.2.1
      have hB2 := hT2.1.2.2.1
      have h45 := hT2.1.2.2.2
      have hC2 := hT2.2.1
      have ez : ∀ z, OutZ (vS (up3 τ 1 1 5 i) 1) (vV (up3 τ 1 1 5 i) 1) 0 z → OutZ (stS (vS σ 0) 3 i) (vV σ 0) 0 z := fun z => (out_iff (m := 14) hSE (by rw [stS_n (by omega)]; exact hT2.2.2.2.2.2) (by omega) (fun h => absurd h (by omega))).mp
      have en_ : cn_ (up3 τ 1 1 5 i) 1 = nS (vS σ 0) := hT2.2.2.2.1
      have n24 : nS (vS σ 0) ≤ 24 := by have := hCl.1; unfold nS; rw [vS_5]; omega
      have rb : inR (f b) := by
        rcases hb with h | h
        · rw [h.1]; exact ⟨by decide, by decide⟩
        · have := hf b h.1 h.2.1; unfold inR; omega
      have step : ∀ σ' z, OutZ (vS (up3 τ 1 1 5 i) 1) (vV (up3 τ 1 1 5 i) 1) 0 z → LayA (up3 τ 1 1 5 i) σ' 1 z → ∀ w : Int, w = ct (fun w => 0 < z w 2) (cn_ (up3 τ 1 1 5 i) 1) → inR w ∧ (f b < w → G 17 [vr 7 0, vi i, vi w, vi (i + 1), vi w] [] σ' 0) ∧ (¬ f b < w → G 17 [vr 7 0, vi b, vi (f b), vi (i + 1), vi w] [] σ' 0) := by
        intro σ' z hz hA w hw
        rw [en_] at hw
        have hr := ct_r (P := fun w => 0 < z w 2) (nS (vS σ 0))
        have hT3 := trS_lay hT2 hA.1
        have hfi : ∀ (g : Nat → Int), g i = w → (∀ j, j < i → g j = f j) → ∀ j, 1 ≤ j → j < i + 1 → BstP (vS σ 0) (vV σ 0) j (g j) ∧ 0 ≤ g j ∧ g j ≤ 24 := by
          intro g g1 g2 j h1 h2
          rcases Nat.lt_succ_iff_lt_or_eq.mp h2 with h | h
          · rw [g2 j h]; exact hf j h1 h
          · subst h; rw [g1]; exact ⟨⟨z, ez z hz, hw⟩, by omega, by omega⟩
        obtain ⟨g, gi, gl⟩ : ∃ g : Nat → Int, g i = w ∧ ∀ j, j < i → g j = f j := ⟨fun j => if j = i then w else f j, by simp, fun j hj => by show (if j = i then w else f j) = f j; rw [if_neg (by omega)]⟩
        refine ⟨by unfold inR; omega, fun hlt => ?_, fun hlt => ?_⟩
        · have := ih (i + 1) g i σ' (vi w) (by omega) (by omega) (Or.inr ⟨w, rfl⟩) hT3 (hfi _ gi gl) (Or.inr ⟨by omega, by omega, fun j h1 h2 => ?_, fun j h1 h2 => ?_⟩)
          · rw [gi] at this; exact this
          · rw [gi]
            rcases Nat.lt_succ_iff_lt_or_eq.mp h2 with h | h
            · rw [gl j h]
              rcases hb with q | q
              · omega
              · have := q.2.2.1 j h1 h; omega
            · subst h; rw [gi]; omega
          · rw [gi, gl j h2]
            rcases hb with q | q
            · omega
            · have := q.2.2.1 j h1 h2; omega
        · have hb' := hb.resolve_left (fun q => by omega)
          have := ih (i + 1) g b σ' (vi w) (by omega) (by omega) (Or.inr ⟨w, rfl⟩) hT3 (hfi _ gi gl) (Or.inr ⟨hb'.1, by omega, fun j h1 h2 => ?_, fun j h1 h2 => ?_⟩)
          · rw [gl b hb'.2.1] at this; exact this
          · rw [gl b hb'.2.1]
            rcases Nat.lt_succ_iff_lt_or_eq.mp h2 with h | h
            · rw [gl j h]; exact hb'.2.2.1 j h1 h
            · subst h; rw [gi]; omega
          · rw [gl b hb'.2.1, gl j (by omega)]; exact hb'.2.2.2 j h1 h2
      have fin : G 17 [vr 7 0, vi b, vi (f b), vi i, v4] [] τ 0 := by
        rcases hv4 with e4 | ⟨x4, e4⟩ <;> subst e4
        · skip
          refine run hG [17] 60 ?_
          simp only [wpn_s, wpn_0, br_T, br_F, st1, st2, true_and, and_true, ↓reduceIte, if_true, if_false, List.contains_nil, List.contains_cons, Bool.or_false, Bool.or_true, Bool.true_or, Bool.false_or, Bool.false_eq_true, bit_0, bit_1, bit_b, true_or, or_true, or_false, false_or, up_e, up_nc, up_nj, ne_eq, not_false_eq_true, not_true_eq_false, inR_n, inR_m1, bi_RT, br_bi, Nat.reduceAdd, Nat.reduceLT, Nat.reduceLeDiff, Nat.reduceEqDiff, Nat.reduceBEq, Nat.zero_le, Int.reduceAdd, Int.reduceNeg, Int.reduceLE, Int.reduceLT, Int.reduceToNat, Int.reduceNatCast, Int.reduceEq, Int.reduceSub, Int.reduceMul, set_0, set_s, len_c, len_n, nc2_0, nc2_1i, nc2_1r, nc2_1j, nc2_s, rcv_e, take_c, take_z, drop_c, drop_z, rev_c, rev_n, app_c, app_n, tol_s, tol_n, Nat.le_refl, s1i_e, s2i_e, s1r_e, sir_e, siir_e, srir_e, c1_i, c1_r, s1v_e, s2v_e, ldv_0, ldv_s, ldx_0, ldx_s, ldi_0, ldi_s, ldr_0, ldr_s, fg_0_0, fg_0_1, fg_0_2, fg_0_3, fg_0_4, fg_0_5, fg_1_0, fg_1_1, fg_1_2, fg_1_3, fg_1_4, fg_1_5, fg_1_6, fg_1_7, fg_2_0, fg_2_1, fg_2_2, fg_2_3, fg_2_4, fg_2_5, fg_3_0, fg_3_1, fg_4_0, fg_4_1, fg_4_2, fg_4_3, fg_4_4, fg_4_5, fg_5_0, fg_5_1, fg_5_2, fg_5_3, fg_5_4, fg_5_5, fg_5_6, fg_6_0, fg_6_1, fg_6_2, fg_6_3, fg_7_0, fg_7_1, fg_7_2, fg_7_3, fg_7_4, fg_7_5, fg_8_0, fg_8_1, fg_8_2, fg_8_3, fg_8_4, fg_8_5, fg_8_6, fg_8_7, fg_8_8, fg_8_9, fg_8_10, fg_8_11, fg_8_12, fg_8_13, cnt_0, cnt_1, cnt_2, cnt_3, cnt_4, cnt_5, cnt_6, cnt_7, cnt_8, cnt_9, cnt_10, cnt_11, cnt_12, cnt_13, cnt_14, fk, stepd_ok dX7_bestStride_0, sf_aload_n0, stepd_ok dX7_bestStride_1, sf_getfield (P := pr_X7_bestStride) ftX7_23, stepd_ok dX7_bestStride_4, stepd_ok dX7_bestStride_5, sf_getfield (P := pr_X7_bestStride) ftX7_19, stepd_ok dX7_bestStride_8, sf_inv (P := pr_X7_bestStride) ca_X7_bestStride_85 rfl, stepd_ok dX7_bestStride_11, sf_iconst, stepd_ok dX7_bestStride_12, sf_istore_n1, stepd_ok dX7_bestStride_13, stepd_ok dX7_bestStride_14, sf_istore_n2, stepd_ok dX7_bestStride_15, stepd_ok dX7_bestStride_16, sf_istore_n3, stepd_ok dX7_bestStride_17, sf_iload_n3, stepd_ok dX7_bestStride_18, stepd_ok dX7_bestStride_19, jk_at (pc := 19) (off := 42) (t := 61) rfl, jo_at (pc := 19) (off := 42) (t := 61) rfl, sf_if_icmp_gt, stepd_ok dX7_bestStride_22, stepd_ok dX7_bestStride_23, stepd_ok dX7_bestStride_26, stepd_ok dX7_bestStride_27, sf_putfield (P := pr_X7_bestStride) ftX7_114, stepd_ok dX7_bestStride_30, stepd_ok dX7_bestStride_31, sf_getfield (P := pr_X7_bestStride) ftX7_36, stepd_ok dX7_bestStride_34, stepd_ok dX7_bestStride_35, stepd_ok dX7_bestStride_38, stepd_ok dX7_bestStride_39, sf_inv (P := pr_X7_bestStride) ca_X7_bestStride_144 rfl, stepd_ok dX7_bestStride_42, sf_istore, stepd_ok dX7_bestStride_44, sf_iload, stepd_ok dX7_bestStride_46, sf_iload_n2, stepd_ok dX7_bestStride_47, jk_at (pc := 47) (off := 8) (t := 55) rfl, jo_at (pc := 47) (off := 8) (t := 55) rfl, sf_if_icmp_le, stepd_ok dX7_bestStride_50, stepd_ok dX7_bestStride_52, stepd_ok dX7_bestStride_53, stepd_ok dX7_bestStride_54, stepd_ok dX7_bestStride_55, sf_iinc, stepd_ok dX7_bestStride_58, jk_at (pc := 58) (off := -41) (t := 17) rfl, sf_goto, stepd_ok dX7_bestStride_61, sf_iload_n1, stepd_ok dX7_bestStride_62, sf_iret1 (P := pr_X7_bestStride) rfl rfl, sp_X1_copyFrom_e, sp_X4_layAll_e, ri, ng, rb, Nat.zero_lt_one, o6, o0, hP2, hC2, hS2, hB2]
          exact ⟨h45, fun σ' z hz hA => step σ' z hz hA _ rfl⟩
        · skip
          refine run hG [17] 60 ?_
          simp only [wpn_s, wpn_0, br_T, br_F, st1, st2, true_and, and_true, ↓reduceIte, if_true, if_false, List.contains_nil, List.contains_cons, Bool.or_false, Bool.or_true, Bool.true_or, Bool.false_or, Bool.false_eq_true, bit_0, bit_1, bit_b, true_or, or_true, or_false, false_or, up_e, up_nc, up_nj, ne_eq, not_false_eq_true, not_true_eq_false, inR_n, inR_m1, bi_RT, br_bi, Nat.reduceAdd, Nat.reduceLT, Nat.reduceLeDiff, Nat.reduceEqDiff, Nat.reduceBEq, Nat.zero_le, Int.reduceAdd, Int.reduceNeg, Int.reduceLE, Int.reduceLT, Int.reduceToNat, Int.reduceNatCast, Int.reduceEq, Int.reduceSub, Int.reduceMul, set_0, set_s, len_c, len_n, nc2_0, nc2_1i, nc2_1r, nc2_1j, nc2_s, rcv_e, take_c, take_z, drop_c, drop_z, rev_c, rev_n, app_c, app_n, tol_s, tol_n, Nat.le_refl, s1i_e, s2i_e, s1r_e, sir_e, siir_e, srir_e, c1_i, c1_r, s1v_e, s2v_e, ldv_0, ldv_s, ldx_0, ldx_s, ldi_0, ldi_s, ldr_0, ldr_s, fg_0_0, fg_0_1, fg_0_2, fg_0_3, fg_0_4, fg_0_5, fg_1_0, fg_1_1, fg_1_2, fg_1_3, fg_1_4, fg_1_5, fg_1_6, fg_1_7, fg_2_0, fg_2_1, fg_2_2, fg_2_3, fg_2_4, fg_2_5, fg_3_0, fg_3_1, fg_4_0, fg_4_1, fg_4_2, fg_4_3, fg_4_4, fg_4_5, fg_5_0, fg_5_1, fg_5_2, fg_5_3, fg_5_4, fg_5_5, fg_5_6, fg_6_0, fg_6_1, fg_6_2, fg_6_3, fg_7_0, fg_7_1, fg_7_2, fg_7_3, fg_7_4, fg_7_5, fg_8_0, fg_8_1, fg_8_2, fg_8_3, fg_8_4, fg_8_5, fg_8_6, fg_8_7, fg_8_8, fg_8_9, fg_8_10, fg_8_11, fg_8_12, fg_8_13, cnt_0, cnt_1, cnt_2, cnt_3, cnt_4, cnt_5, cnt_6, cnt_7, cnt_8, cnt_9, cnt_10, cnt_11, cnt_12, cnt_13, cnt_14, fk, stepd_ok dX7_bestStride_0, sf_aload_n0, stepd_ok dX7_bestStride_1, sf_getfield (P := pr_X7_bestStride) ftX7_23, stepd_ok dX7_bestStride_4, stepd_ok dX7_bestStride_5, sf_getfield (P := pr_X7_bestStride) ftX7_19, stepd_ok dX7_bestStride_8, sf_inv (P := pr_X7_bestStride) ca_X7_bestStride_85 rfl, stepd_ok dX7_bestStride_11, sf_iconst, stepd_ok dX7_bestStride_12, sf_istore_n1, stepd_ok dX7_bestStride_13, stepd_ok dX7_bestStride_14, sf_istore_n2, stepd_ok dX7_bestStride_15, stepd_ok dX7_bestStride_16, sf_istore_n3, stepd_ok dX7_bestStride_17, sf_iload_n3, stepd_ok dX7_bestStride_18, stepd_ok dX7_bestStride_19, jk_at (pc := 19) (off := 42) (t := 61) rfl, jo_at (pc := 19) (off := 42) (t := 61) rfl, sf_if_icmp_gt, stepd_ok dX7_bestStride_22, stepd_ok dX7_bestStride_23, stepd_ok dX7_bestStride_26, stepd_ok dX7_bestStride_27, sf_putfield (P := pr_X7_bestStride) ftX7_114, stepd_ok dX7_bestStride_30, stepd_ok dX7_bestStride_31, sf_getfield (P := pr_X7_bestStride) ftX7_36, stepd_ok dX7_bestStride_34, stepd_ok dX7_bestStride_35, stepd_ok dX7_bestStride_38, stepd_ok dX7_bestStride_39, sf_inv (P := pr_X7_bestStride) ca_X7_bestStride_144 rfl, stepd_ok dX7_bestStride_42, sf_istore, stepd_ok dX7_bestStride_44, sf_iload, stepd_ok dX7_bestStride_46, sf_iload_n2, stepd_ok dX7_bestStride_47, jk_at (pc := 47) (off := 8) (t := 55) rfl, jo_at (pc := 47) (off := 8) (t := 55) rfl, sf_if_icmp_le, stepd_ok dX7_bestStride_50, stepd_ok dX7_bestStride_52, stepd_ok dX7_bestStride_53, stepd_ok dX7_bestStride_54, stepd_ok dX7_bestStride_55, sf_iinc, stepd_ok dX7_bestStride_58, jk_at (pc := 58) (off := -41) (t := 17) rfl, sf_goto, stepd_ok dX7_bestStride_61, sf_iload_n1, stepd_ok dX7_bestStride_62, sf_iret1 (P := pr_X7_bestStride) rfl rfl, sp_X1_copyFrom_e, sp_X4_layAll_e, ri, ng, rb, Nat.zero_lt_one, o6, o0, hP2, hC2, hS2, hB2]
          exact ⟨h45, fun σ' z hz hA => step σ' z hz hA _ rfl⟩
      exact fin
  show G 0 [vr 7 0, vj, vj, vj, vj] [] σ 0
  refine run hG [17] 60 ?_
  simp only [wpn_s, wpn_0, br_T, br_F, st1, st2, true_and, and_true, ↓reduceIte, if_true, if_false, List.contains_nil, List.contains_cons, Bool.or_false, Bool.or_true, Bool.true_or, Bool.false_or, Bool.false_eq_true, bit_0, bit_1, bit_b, true_or, or_true, or_false, false_or, up_e, up_nc, up_nj, ne_eq, not_false_eq_true, not_true_eq_false, inR_n, inR_m1, bi_RT, br_bi, Nat.reduceAdd, Nat.reduceLT, Nat.reduceLeDiff, Nat.reduceEqDiff, Nat.reduceBEq, Nat.zero_le, Int.reduceAdd, Int.reduceNeg, Int.reduceLE, Int.reduceLT, Int.reduceToNat, Int.reduceNatCast, Int.reduceEq, Int.reduceSub, Int.reduceMul, set_0, set_s, len_c, len_n, nc2_0, nc2_1i, nc2_1r, nc2_1j, nc2_s, rcv_e, take_c, take_z, drop_c, drop_z, rev_c, rev_n, app_c, app_n, tol_s, tol_n, Nat.le_refl, s1i_e, s2i_e, s1r_e, sir_e, siir_e, srir_e, c1_i, c1_r, s1v_e, s2v_e, ldv_0, ldv_s, ldx_0, ldx_s, ldi_0, ldi_s, ldr_0, ldr_s, fg_0_0, fg_0_1, fg_0_2, fg_0_3, fg_0_4, fg_0_5, fg_1_0, fg_1_1, fg_1_2, fg_1_3, fg_1_4, fg_1_5, fg_1_6, fg_1_7, fg_2_0, fg_2_1, fg_2_2, fg_2_3, fg_2_4, fg_2_5, fg_3_0, fg_3_1, fg_4_0, fg_4_1, fg_4_2, fg_4_3, fg_4_4, fg_4_5, fg_5_0, fg_5_1, fg_5_2, fg_5_3, fg_5_4, fg_5_5, fg_5_6, fg_6_0, fg_6_1, fg_6_2, fg_6_3, fg_7_0, fg_7_1, fg_7_2, fg_7_3, fg_7_4, fg_7_5, fg_8_0, fg_8_1, fg_8_2, fg_8_3, fg_8_4, fg_8_5, fg_8_6, fg_8_7, fg_8_8, fg_8_9, fg_8_10, fg_8_11, fg_8_12, fg_8_13, cnt_0, cnt_1, cnt_2, cnt_3, cnt_4, cnt_5, cnt_6, cnt_7, cnt_8, cnt_9, cnt_10, cnt_11, cnt_12, cnt_13, cnt_14, fk, stepd_ok dX7_bestStride_0, sf_aload_n0, stepd_ok dX7_bestStride_1, sf_getfield (P := pr_X7_bestStride) ftX7_23, stepd_ok dX7_bestStride_4, stepd_ok dX7_bestStride_5, sf_getfield (P := pr_X7_bestStride) ftX7_19, stepd_ok dX7_bestStride_8, sf_inv (P := pr_X7_bestStride) ca_X7_bestStride_85 rfl, stepd_ok dX7_bestStride_11, sf_iconst, stepd_ok dX7_bestStride_12, sf_istore_n1, stepd_ok dX7_bestStride_13, stepd_ok dX7_bestStride_14, sf_istore_n2, stepd_ok dX7_bestStride_15, stepd_ok dX7_bestStride_16, sf_istore_n3, stepd_ok dX7_bestStride_17, sf_iload_n3, stepd_ok dX7_bestStride_18, stepd_ok dX7_bestStride_19, jk_at (pc := 19) (off := 42) (t := 61) rfl, jo_at (pc := 19) (off := 42) (t := 61) rfl, sf_if_icmp_gt, stepd_ok dX7_bestStride_22, stepd_ok dX7_bestStride_23, stepd_ok dX7_bestStride_26, stepd_ok dX7_bestStride_27, sf_putfield (P := pr_X7_bestStride) ftX7_114, stepd_ok dX7_bestStride_30, stepd_ok dX7_bestStride_31, sf_getfield (P := pr_X7_bestStride) ftX7_36, stepd_ok dX7_bestStride_34, stepd_ok dX7_bestStride_35, stepd_ok dX7_bestStride_38, stepd_ok dX7_bestStride_39, sf_inv (P := pr_X7_bestStride) ca_X7_bestStride_144 rfl, stepd_ok dX7_bestStride_42, sf_istore, stepd_ok dX7_bestStride_44, sf_iload, stepd_ok dX7_bestStride_46, sf_iload_n2, stepd_ok dX7_bestStride_47, jk_at (pc := 47) (off := 8) (t := 55) rfl, jo_at (pc := 47) (off := 8) (t := 55) rfl, sf_if_icmp_le, stepd_ok dX7_bestStride_50, stepd_ok dX7_bestStride_52, stepd_ok dX7_bestStride_53, stepd_ok dX7_bestStride_54, stepd_ok dX7_bestStride_55, sf_iinc, stepd_ok dX7_bestStride_58, jk_at (pc := 58) (off := -41) (t := 17) rfl, sf_goto, stepd_ok dX7_bestStride_61, sf_iload_n1, stepd_ok dX7_bestStride_62, sf_iret1 (P := pr_X7_bestStride) rfl rfl, sp_X1_copyFrom_e, sp_X4_layAll_e, Nat.zero_lt_one, z6, o6, o0, hP, hCl]
  intro τ hcp
  exact loop 4 1 (fun _ => -1) 1 τ vj rfl (by omega) (Or.inl rfl) (trS_cp hC hcp) (fun j h1 h2 => absurd h2 (by omega)) (Or.inl ⟨rfl, rfl, rfl⟩)
theorem cn_X7_bestStride (l : Launch) (Γ : Ga) : Cn l Γ yX7_bestStride (wsy yX7_bestStride cX7_bestStride 5 (some .int)) rm_X7_bestStride 0 sp_X7_bestStride := Cn_of (P := pr_X7_bestStride) (own := RX7) (by decide) rfl rfl (by decide) rfl ⟨rfl, rfl⟩ ftX7_ok (List.forall_mem_cons.mpr ⟨callV_of (rc := 1) (cn_X1_copyFrom l Γ) rfl rfl (List.forall_mem_cons.mpr ⟨wl_X7_85, fun _ h => wm_X1_copyFrom h⟩) ⟨rfl, by decide, by decide, by decide +kernel⟩ ⟨by decide, by decide⟩, List.forall_mem_cons.mpr ⟨callV_of (rc := 4) (cn_X4_layAll l Γ) rfl rfl (List.forall_mem_cons.mpr ⟨wl_X7_144, fun _ h => wm_X4_layAll h⟩) ⟨rfl, by decide, by decide, by decide +kernel⟩ ⟨by decide, by decide⟩, fun _ h => (List.not_mem_nil h).elim⟩⟩) (fun _ h => (List.not_mem_nil h).elim) (fun _ _ _ _ _ _ _ _ _ _ q hq => (List.not_mem_nil hq).elim) sem_X7_bestStride
