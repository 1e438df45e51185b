theorem p_and {a b c d : Prop} (h1 : a → c) (h2 : b → d) : a ∧ b → c ∧ d := fun h => ⟨h1 h.1, h2 h.2⟩
theorem mo_X7_append {a : List AV} {σ : Sto} {K K1 : Option AV → Sto → Prop} {KX KX1 : Nat → Sto → Prop} (h1 : ∀ r τ, K r τ → K1 r τ) (h2 : ∀ n τ, KX n τ → KX1 n τ) : sp_X7_append a σ K KX → sp_X7_append a σ K1 KX1 := by
  unfold sp_X7_append
  repeat' (first | exact id | exact h1 _ _ | exact h2 _ _ | refine p_and ?_ ?_ | refine Exists.imp (fun _ => ?_) | (intro g z; have g := g z; revert g))
def sp_L_append : Spec := fun a σ K KX => ∃ (x0 : Int), a = [vr 7 0, vi x0, vr 14 0] ∧ (sp_X7_append [vr 7 0, vi x0] σ (fun r τ => ∃ v, r = some (vi v) ∧ inR v ∧ K (some (vi 0)) (up3 τ 14 0 0 v)) (fun n τ => (ckx n = 13 → K (some (vi 1)) τ) ∧ (¬ ckx n = 13 → ckx n = 15 ∧ K (some (vi 2)) τ)))
theorem sp_L_append_e {x0 : Int} {σ : Sto} {K : Option AV → Sto → Prop} {KX : Nat → Sto → Prop} : sp_L_append [vr 7 0, vi x0, vr 14 0] σ K KX = (sp_X7_append [vr 7 0, vi x0] σ (fun r τ => ∃ v, r = some (vi v) ∧ inR v ∧ K (some (vi 0)) (up3 τ 14 0 0 v)) (fun n τ => (ckx n = 13 → K (some (vi 1)) τ) ∧ (¬ ckx n = 13 → ckx n = 15 ∧ K (some (vi 2)) τ))) := propext ⟨fun h => by obtain ⟨_, h, hb⟩ := h; cases h; exact hb, fun hb => ⟨_, rfl, hb⟩⟩
def pr_L_append : Par := (ftL9, [(7, (2, 2, 7 + 1, sp_X7_append))], [], [], 1, 2, none)
def rm_L_append : Room := { frames := 8, cells := 2, slots := 12, locals := 133 }
theorem ca_L_append_7 : List.lookup 7 pr_L_append.2.1 = some (2, 2, 7 + 1, sp_X7_append) := rfl
set_option maxRecDepth 100000 in
set_option maxHeartbeats 4000000 in
theorem sem_L_append : SemH pr_L_append hh_L_append cL_append 4 sp_L_append := by
  rintro a σ K KX ⟨x0, rfl, hsp⟩
  refine ⟨by simp [vr, vi, vl, nj], Nat.le_of_ble_eq_true rfl, fun G hG => ?_⟩
  show G 0 [vr 7 0, vi x0, vr 14 0, vj] [] σ 0
  refine run hG [7] 12 ?_
  simp only [↓br_bi, ↓xbr_t, ↓xbr_f, ↓xst1, ↓xst2, ↓xrd, ↓s1i_e, ↓s2i_e, ↓s1l_e, ↓s2l_e, ↓s1d_e, ↓s2d_e, ↓s1r_e, ↓sir_e, ↓siir_e, ↓slir_e, ↓srir_e, ↓s1v_e, ↓s2v_e, ↓ldv_0, ↓ldv_s, ↓ldx_0, ↓ldx_s, ↓ldi_0, ↓ldi_s, ↓ldr_0, ↓ldr_s, ↓ldl_0, ↓ldl_s, ↓ldd_0, ↓ldd_s, wpn_s, wpn_0, br_T, br_F, true_and, and_true, ↓reduceIte, if_true, if_false, List.contains_nil, List.contains_cons, Bool.or_false, Bool.or_true, Bool.true_or, Bool.false_or, Bool.false_eq_true, bit_0, bit_1, bit_b, true_or, or_true, or_false, false_or, up_e, up_nc, up_nj, ne_eq, not_false_eq_true, not_true_eq_false, inR_n, inR_m1, bi_RT, Nat.reduceAdd, Nat.reduceLT, Nat.reduceLeDiff, Nat.reduceEqDiff, Nat.reduceBEq, Nat.zero_le, Int.reduceAdd, Int.reduceNeg, Int.reduceLE, Int.reduceLT, Int.reduceToNat, Int.reduceNatCast, Int.reduceEq, Int.reduceSub, Int.reduceMul, false_implies, true_implies, implies_true, set_0, set_s, len_c, len_n, nc2_0, nc2_1i, nc2_1r, nc2_1j, nc2_s, rcv_e, take_c, take_z, drop_c, drop_z, rev_c, rev_n, app_c, app_n, tol_s, tol_n, Nat.le_refl, cnt_0, cnt_1, cnt_2, cnt_3, cnt_4, cnt_5, cnt_6, cnt_7, cnt_8, cnt_9, cnt_10, cnt_11, cnt_12, cnt_13, cnt_14, c1_i, c1_r, stepd_ok dL_append_0, sf_aload_n2, stepd_ok dL_append_1, sf_iconst, stepd_ok dL_append_2, sf_aload_n0, stepd_ok dL_append_3, sf_iload_n1, stepd_ok dL_append_4, xinv2 (P := pr_L_append) ca_L_append_7 rfl, stepd_ok dL_append_7, sf_i2l, stepd_ok dL_append_8, sf_lastore, stepd_ok dL_append_9, ↓jk_at (pc := 9) (off := 9) (t := 18) rfl, sf_goto, stepd_ok dL_append_12, sf_astore_n3, stepd_ok dL_append_13, stepd_ok dL_append_14, stepd_ok dL_append_15, stepd_ok dL_append_16, stepd_ok dL_append_17, stepd_ok dL_append_18, stepd_ok dL_append_19, sf_iret1 (P := pr_L_append) rfl rfl]
  trace_state
  sorry
theorem mo_X7_placedOn {a : List AV} {σ : Sto} {K K1 : Option AV → Sto → Prop} {KX KX1 : Nat → Sto → Prop} (h1 : ∀ r τ, K r τ → K1 r τ) (h2 : ∀ n τ, KX n τ → KX1 n τ) : sp_X7_placedOn a σ K KX → sp_X7_placedOn a σ K1 KX1 := by
  unfold sp_X7_placedOn
  repeat' (first | exact id | exact h1 _ _ | exact h2 _ _ | refine p_and ?_ ?_ | refine Exists.imp (fun _ => ?_) | (intro g z; have g := g z; revert g))
def sp_L_placedOn : Spec := fun a σ K KX => ∃ (x0 : Int) (x1 : Int) (x2 : Int), a = [vr 7 0, vi x0, vi x1, vi x2, vr 14 0] ∧ (sp_X7_placedOn [vr 7 0, vi x0, vi x1, vi x2] σ (fun r τ => ∃ v, r = some (vi v) ∧ inR v ∧ K (some (vi 0)) (up3 τ 14 0 0 v)) (fun n τ => ckx n = 13 ∧ K (some (vi 1)) τ))
theorem sp_L_placedOn_e {x0 : Int} {x1 : Int} {x2 : Int} {σ : Sto} {K : Option AV → Sto → Prop} {KX : Nat → Sto → Prop} : sp_L_placedOn [vr 7 0, vi x0, vi x1, vi x2, vr 14 0] σ K KX = (sp_X7_placedOn [vr 7 0, vi x0, vi x1, vi x2] σ (fun r τ => ∃ v, r = some (vi v) ∧ inR v ∧ K (some (vi 0)) (up3 τ 14 0 0 v)) (fun n τ => ckx n = 13 ∧ K (some (vi 1)) τ)) := propext ⟨fun h => by obtain ⟨_, _, _, h, hb⟩ := h; cases h; exact hb, fun hb => ⟨_, _, _, rfl, hb⟩⟩
def pr_L_placedOn : Par := (ftL9, [(57, (4, 2, 7 + 1, sp_X7_placedOn))], [], [], 1, 2, none)
def rm_L_placedOn : Room := { frames := 8, cells := 2, slots := 12, locals := 166 }
theorem ca_L_placedOn_57 : List.lookup 57 pr_L_placedOn.2.1 = some (4, 2, 7 + 1, sp_X7_placedOn) := rfl
set_option maxRecDepth 100000 in
set_option maxHeartbeats 4000000 in
theorem sem_L_placedOn : SemH pr_L_placedOn hh_L_placedOn cL_placedOn 6 sp_L_placedOn := by
  rintro a σ K KX ⟨x0, x1, x2, rfl, hsp⟩
  refine ⟨by simp [vr, vi, vl, nj], Nat.le_of_ble_eq_true rfl, fun G hG => ?_⟩
  show G 0 [vr 7 0, vi x0, vi x1, vi x2, vr 14 0, vj] [] σ 0
  refine run hG [10] 12 ?_
  simp only [↓br_bi, ↓xbr_t, ↓xbr_f, ↓xst1, ↓xst2, ↓xrd, ↓s1i_e, ↓s2i_e, ↓s1l_e, ↓s2l_e, ↓s1d_e, ↓s2d_e, ↓s1r_e, ↓sir_e, ↓siir_e, ↓slir_e, ↓srir_e, ↓s1v_e, ↓s2v_e, ↓ldv_0, ↓ldv_s, ↓ldx_0, ↓ldx_s, ↓ldi_0, ↓ldi_s, ↓ldr_0, ↓ldr_s, ↓ldl_0, ↓ldl_s, ↓ldd_0, ↓ldd_s, wpn_s, wpn_0, br_T, br_F, true_and, and_true, ↓reduceIte, if_true, if_false, List.contains_nil, List.contains_cons, Bool.or_false, Bool.or_true, Bool.true_or, Bool.false_or, Bool.false_eq_true, bit_0, bit_1, bit_b, true_or, or_true, or_false, false_or, up_e, up_nc, up_nj, ne_eq, not_false_eq_true, not_true_eq_false, inR_n, inR_m1, bi_RT, Nat.reduceAdd, Nat.reduceLT, Nat.reduceLeDiff, Nat.reduceEqDiff, Nat.reduceBEq, Nat.zero_le, Int.reduceAdd, Int.reduceNeg, Int.reduceLE, Int.reduceLT, Int.reduceToNat, Int.reduceNatCast, Int.reduceEq, Int.reduceSub, Int.reduceMul, false_implies, true_implies, implies_true, set_0, set_s, len_c, len_n, nc2_0, nc2_1i, nc2_1r, nc2_1j, nc2_s, rcv_e, take_c, take_z, drop_c, drop_z, rev_c, rev_n, app_c, app_n, tol_s, tol_n, Nat.le_refl, cnt_0, cnt_1, cnt_2, cnt_3, cnt_4, cnt_5, cnt_6, cnt_7, cnt_8, cnt_9, cnt_10, cnt_11, cnt_12, cnt_13, cnt_14, c1_i, c1_r, stepd_ok dL_placedOn_0, sf_aload, stepd_ok dL_placedOn_2, sf_iconst, stepd_ok dL_placedOn_3, sf_aload_n0, stepd_ok dL_placedOn_4, sf_iload_n1, stepd_ok dL_placedOn_5, sf_iload_n2, stepd_ok dL_placedOn_6, sf_iload_n3, stepd_ok dL_placedOn_7, xinv4 (P := pr_L_placedOn) ca_L_placedOn_57 rfl, stepd_ok dL_placedOn_10, sf_i2l, stepd_ok dL_placedOn_11, sf_lastore, stepd_ok dL_placedOn_12, ↓jk_at (pc := 12) (off := 7) (t := 19) rfl, sf_goto, stepd_ok dL_placedOn_15, sf_astore, stepd_ok dL_placedOn_17, stepd_ok dL_placedOn_18, stepd_ok dL_placedOn_19, stepd_ok dL_placedOn_20, sf_iret1 (P := pr_L_placedOn) rfl rfl]
  trace_state
  sorry
