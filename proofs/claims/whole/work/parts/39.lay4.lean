def spN (v : Nat → Int) (k : Nat) : Int := if k = 0 then v 0 + v 2 else if k = 1 then v 1 + v 3 else if v 5 - 1 = 0 then (if k = 2 then - v 3 else if k = 3 then v 2 else if k = 4 ∨ k = 5 then v 4 + v 6 else 1 - v 6) else if k = 5 then v 5 - 1 else v k
def sp0 (x y s : Int) (k : Nat) : Int := if k = 0 then x else if k = 1 then y else if k = 2 then s else if k = 3 then 0 else if k = 4 ∨ k = 5 then 1 else 0
/-- the spiral from x, y: its seven numbers at its t-th point -/
def spv (x y s : Int) : Nat → Nat → Int
  | 0 => sp0 x y s
  | t + 1 => spN (spv x y s t)
theorem spv_r {x y s : Int} (h : 1 ≤ s ∧ s ≤ 4) : ∀ t : Nat, (-4 ≤ spv x y s t 2 ∧ spv x y s t 2 ≤ 4) ∧ (-4 ≤ spv x y s t 3 ∧ spv x y s t 3 ≤ 4) ∧ (x - 4 * t ≤ spv x y s t 0 ∧ spv x y s t 0 ≤ x + 4 * t) ∧ (y - 4 * t ≤ spv x y s t 1 ∧ spv x y s t 1 ≤ y + 4 * t) ∧ (1 ≤ spv x y s t 5 ∧ spv x y s t 5 ≤ t + 1) ∧ (1 ≤ spv x y s t 4 ∧ spv x y s t 4 ≤ t + 1) ∧ (spv x y s t 6 = 0 ∨ spv x y s t 6 = 1) := by
  intro t
  induction t with
  | zero => simp [spv, sp0]; omega
  | succ t ih =>
    have e : spv x y s (t + 1) = spN (spv x y s t) := rfl
    rw [e]
    by_cases g : spv x y s t 5 - 1 = 0
    · simp [spN, g]; omega
    · simp [spN, g]; omega
def FndB (PB : Int → Int → Int → Int → Prop) (d len s : Int) (v : Nat → Int) : Prop := TryB PB d len s (v 0) (v 1) 0 ∨ TryB PB d len s (v 0) (v 1) 1
/-- the first possible box along the spiral, or f = 0 -/
def SpR (PB : Int → Int → Int → Int → Prop) (d len s st x0 y0 f x y u : Int) : Prop := (f = 1 ∧ ∃ t : Nat, t < 1500 ∧ (∀ t', t' < t → ¬ FndB PB d len s (spv x0 y0 st t')) ∧ x = spv x0 y0 st t 0 ∧ y = spv x0 y0 st t 1 ∧ TryB PB d len s x y u ∧ (u = 0 ∨ (u = 1 ∧ ¬ TryB PB d len s x y 0))) ∨ (f = 0 ∧ ∀ t : Nat, t < 1500 → ¬ FndB PB d len s (spv x0 y0 st t))
theorem fr5_frl {σ τ : Sto} (h : Fr5 σ τ) (h1 : 0 ≤ σ 4 0 5 ∧ σ 4 0 5 ≤ 24) (hP : Phy σ) : FrL σ τ := by
  have f0 : ∀ k, τ 0 144 k = σ 0 144 k := fun k => h 0 144 k (by omega)
  refine ⟨fun c i k _ _ o => h c i k o, by rw [h 4 0 5 (by omega)]; exact h1, ?_, by rw [f0]; exact (hP.1 144 (by omega)).2.2⟩
  unfold bx4; simp only [f0]; exact (hP.1 144 (by omega)).1
def sp_X4_findOnSpiral : Spec := fun a σ K KX => ∃ (i : Nat) (c : Nat) (e : Nat) (s : Int), a = [vr 4 i, vr 1 c, vr 2 e, vi s] ∧ (i < 1 ∧ c < 6 ∧ e < 144 ∧ LS2 σ c ∧ EntOK σ e ∧ (1 ≤ s ∧ s ≤ 8) ∧ ∀ σ' f x0 y0 x y u, StartAt σ c (σ 2 e 5) x0 y0 → FrL σ σ' → SpR (PosAt σ c) (σ 2 e 4) (σ 2 e 2) s (σ 1 c 5) x0 y0 f x y u → (f = 1 → Cand σ' (σ 2 e 2) s x y u) → bitOK f → K (some (vi f)) σ')
theorem sp_X4_findOnSpiral_e {i : Nat} {c : Nat} {e : Nat} {s : Int} {σ : Sto} {K : Option AV → Sto → Prop} {KX : Nat → Sto → Prop} : sp_X4_findOnSpiral [vr 4 i, vr 1 c, vr 2 e, vi s] σ K KX = (i < 1 ∧ c < 6 ∧ e < 144 ∧ LS2 σ c ∧ EntOK σ e ∧ (1 ≤ s ∧ s ≤ 8) ∧ ∀ σ' f x0 y0 x y u, StartAt σ c (σ 2 e 5) x0 y0 → FrL σ σ' → SpR (PosAt σ c) (σ 2 e 4) (σ 2 e 2) s (σ 1 c 5) x0 y0 f x y u → (f = 1 → Cand σ' (σ 2 e 2) s x y u) → bitOK f → K (some (vi f)) σ') := propext ⟨fun h => by obtain ⟨_, _, _, _, h, hb⟩ := h; cases h; exact hb, fun hb => ⟨_, _, _, _, rfl, hb⟩⟩
def pr_X4_findOnSpiral : Par := (ftX4, [(117, (3, 0, 4 + 1, sp_X4_beginSpiral)), (121, (5, 0, 4 + 1, sp_X4_standsAtPoint)), (125, (1, 0, 5 + 1, sp_X5_goOn))], [], [], 2, 0, none)
def rm_X4_findOnSpiral : Room := { frames := 3, cells := 0, slots := 0, locals := 69 }
theorem ca_X4_findOnSpiral_117 : List.lookup 117 pr_X4_findOnSpiral.2.1 = some (3, 0, 4 + 1, sp_X4_beginSpiral) := rfl
theorem ca_X4_findOnSpiral_121 : List.lookup 121 pr_X4_findOnSpiral.2.1 = some (5, 0, 4 + 1, sp_X4_standsAtPoint) := rfl
theorem ca_X4_findOnSpiral_125 : List.lookup 125 pr_X4_findOnSpiral.2.1 = some (1, 0, 5 + 1, sp_X5_goOn) := rfl
set_option maxRecDepth 100000 in
set_option maxHeartbeats 4000000 in
theorem sem_X4_findOnSpiral : Sem pr_X4_findOnSpiral cX4_findOnSpiral 5 sp_X4_findOnSpiral := by
  rintro a σ K KX ⟨i, c, e, s, rfl, hi, hc, he, hL2, hE, hs, hK⟩
  refine ⟨by simp [vr, vi, nj], Nat.le_of_ble_eq_true rfl, fun G hG => ?_⟩
  have hi0 : i = 0 := by omega
  subst hi0
  have hL := hL2.1
  have hst := hL.2.2.1.2.2.2.1
  have rg : inR (σ 2 e 5) := by have := hE.2.2.2.2.1; unfold inR; omega
  have s1 := hs.1
  have s2 := hs.2
  have loop : ∀ (x0 y0 : Int), StartAt σ c (σ 2 e 5) x0 y0 → (0 ≤ x0 ∧ x0 ≤ 80 ∧ 0 ≤ y0 ∧ y0 ≤ 80) → ∀ (n t : Nat), t + n = 1500 → ∀ τ : Sto, FrL σ τ → (∀ k : Nat, k < 7 → τ 5 0 k = spv x0 y0 (σ 1 c 5) t k) → (∀ t', t' < t → ¬ FndB (PosAt σ c) (σ 2 e 4) (σ 2 e 2) s (spv x0 y0 (σ 1 c 5) t')) → G 12 [vr 4 0, vr 1 c, vr 2 e, vi s, vi t] [] τ 0 := by
    intro x0 y0 hS0 hx n
    induction n with
    | zero =>
      intro t ht τ hF h5 hall
      have k := hK τ 0 x0 y0 0 0 0 hS0 hF (Or.inr ⟨rfl, fun t' h => hall t' (by omega)⟩) (fun h => absurd h (by omega)) (Or.inl rfl)
      refine run hG [12] 60 ?_
      simp only [wpn_s, wpn_0, br_T, br_F, st1, st2, true_and, and_true, ↓reduceIte, if_true, if_false, List.contains_nil, List.contains_cons, Bool.or_false, Bool.or_true, Bool.true_or, Bool.false_or, Bool.false_eq_true, bit_0, bit_1, bit_b, true_or, or_true, or_false, false_or, up_e, up_nc, up_nj, ne_eq, not_false_eq_true, not_true_eq_false, inR_n, inR_m1, bi_RT, br_bi, Nat.reduceAdd, Nat.reduceLT, Nat.reduceLeDiff, Nat.reduceEqDiff, Nat.reduceBEq, Nat.zero_le, Int.reduceAdd, Int.reduceNeg, Int.reduceLE, Int.reduceLT, Int.reduceToNat, Int.reduceNatCast, Int.reduceEq, Int.reduceSub, Int.reduceMul, set_0, set_s, len_c, len_n, nc2_0, nc2_1i, nc2_1r, nc2_1j, nc2_s, rcv_e, take_c, take_z, drop_c, drop_z, rev_c, rev_n, app_c, app_n, tol_s, tol_n, Nat.le_refl, s1i_e, s2i_e, s1r_e, sir_e, siir_e, srir_e, c1_i, c1_r, s1v_e, s2v_e, ldv_0, ldv_s, ldx_0, ldx_s, ldi_0, ldi_s, ldr_0, ldr_s, fg_0_0, fg_0_1, fg_0_2, fg_0_3, fg_0_4, fg_0_5, fg_1_0, fg_1_1, fg_1_2, fg_1_3, fg_1_4, fg_1_5, fg_1_6, fg_1_7, fg_2_0, fg_2_1, fg_2_2, fg_2_3, fg_2_4, fg_2_5, fg_3_0, fg_3_1, fg_4_0, fg_4_1, fg_4_2, fg_4_3, fg_4_4, fg_4_5, fg_5_0, fg_5_1, fg_5_2, fg_5_3, fg_5_4, fg_5_5, fg_5_6, fg_6_0, fg_6_1, fg_6_2, fg_6_3, fg_7_0, fg_7_1, fg_7_2, fg_7_3, fg_7_4, fg_7_5, fg_8_0, fg_8_1, fg_8_2, fg_8_3, fg_8_4, fg_8_5, fg_8_6, fg_8_7, fg_8_8, fg_8_9, fg_8_10, fg_8_11, fg_8_12, fg_8_13, cnt_0, cnt_1, cnt_2, cnt_3, cnt_4, cnt_5, cnt_6, cnt_7, cnt_8, cnt_9, cnt_10, cnt_11, cnt_12, cnt_13, cnt_14, fk, stepd_ok dX4_findOnSpiral_0, sf_aload_n0, stepd_ok dX4_findOnSpiral_1, sf_aload_n1, stepd_ok dX4_findOnSpiral_2, sf_aload_n2, stepd_ok dX4_findOnSpiral_3, sf_getfield (P := pr_X4_findOnSpiral) ftX4_114, stepd_ok dX4_findOnSpiral_6, sf_inv (P := pr_X4_findOnSpiral) ca_X4_findOnSpiral_117 rfl, stepd_ok dX4_findOnSpiral_9, sf_iconst, stepd_ok dX4_findOnSpiral_10, sf_istore, stepd_ok dX4_findOnSpiral_12, sf_iload, stepd_ok dX4_findOnSpiral_14, sf_sipush, stepd_ok dX4_findOnSpiral_17, jk_at (pc := 17) (off := 40) (t := 57) rfl, jo_at (pc := 17) (off := 40) (t := 57) rfl, sf_if_icmp_ge, stepd_ok dX4_findOnSpiral_20, stepd_ok dX4_findOnSpiral_21, stepd_ok dX4_findOnSpiral_22, stepd_ok dX4_findOnSpiral_23, sf_iload_n3, stepd_ok dX4_findOnSpiral_24, stepd_ok dX4_findOnSpiral_25, sf_inv (P := pr_X4_findOnSpiral) ca_X4_findOnSpiral_121 rfl, stepd_ok dX4_findOnSpiral_28, jk_at (pc := 28) (off := 14) (t := 42) rfl, jo_at (pc := 28) (off := 14) (t := 42) rfl, sf_ifCond_ne, stepd_ok dX4_findOnSpiral_31, stepd_ok dX4_findOnSpiral_32, stepd_ok dX4_findOnSpiral_33, stepd_ok dX4_findOnSpiral_34, stepd_ok dX4_findOnSpiral_35, stepd_ok dX4_findOnSpiral_36, stepd_ok dX4_findOnSpiral_39, jk_at (pc := 39) (off := 5) (t := 44) rfl, jo_at (pc := 39) (off := 5) (t := 44) rfl, sf_ifCond_eq, stepd_ok dX4_findOnSpiral_42, stepd_ok dX4_findOnSpiral_43, stepd_ok dX4_findOnSpiral_44, stepd_ok dX4_findOnSpiral_45, sf_getfield (P := pr_X4_findOnSpiral) ftX4_28, stepd_ok dX4_findOnSpiral_48, sf_inv (P := pr_X4_findOnSpiral) ca_X4_findOnSpiral_125 rfl, stepd_ok dX4_findOnSpiral_51, sf_iinc, stepd_ok dX4_findOnSpiral_54, jk_at (pc := 54) (off := -42) (t := 12) rfl, sf_goto, stepd_ok dX4_findOnSpiral_57, stepd_ok dX4_findOnSpiral_58, sf_iret2 (P := pr_X4_findOnSpiral) rfl rfl, sp_X4_beginSpiral_e, sp_X4_standsAtPoint_e, sp_X5_goOn_e]
      refine ⟨by unfold inR; omega, fun h => absurd h (by omega), fun _ => ?_⟩
      exact k
    | succ n ih =>
      intro t ht τ hF h5 hall
      have v := spv_r (x := x0) (y := y0) hst t
      have hLτ := frl_lst hF hc hL
      have f2 : ∀ k, τ 2 e k = σ 2 e k := fun k => hF.1 2 e k (by omega) (by omega) (by omega)
      have hEτ : EntOK τ e := ent_congr (fun c' k _ => hF.1 c' e k (by omega) (by omega) (by omega)) hE
      have n1 : near (τ 5 0 0) := by rw [h5 0 (by omega)]; unfold near; omega
      have n2 : near (τ 5 0 1) := by rw [h5 1 (by omega)]; unfold near; omega
      have hb := hF.2.2.2
      refine run hG [12] 60 ?_
      simp only [wpn_s, wpn_0, br_T, br_F, st1, st2, true_and, and_true, ↓reduceIte, if_true, if_false, List.contains_nil, List.contains_cons, Bool.or_false, Bool.or_true, Bool.true_or, Bool.false_or, Bool.false_eq_true, bit_0, bit_1, bit_b, true_or, or_true, or_false, false_or, up_e, up_nc, up_nj, ne_eq, not_false_eq_true, not_true_eq_false, inR_n, inR_m1, bi_RT, br_bi, Nat.reduceAdd, Nat.reduceLT, Nat.reduceLeDiff, Nat.reduceEqDiff, Nat.reduceBEq, Nat.zero_le, Int.reduceAdd, Int.reduceNeg, Int.reduceLE, Int.reduceLT, Int.reduceToNat, Int.reduceNatCast, Int.reduceEq, Int.reduceSub, Int.reduceMul, set_0, set_s, len_c, len_n, nc2_0, nc2_1i, nc2_1r, nc2_1j, nc2_s, rcv_e, take_c, take_z, drop_c, drop_z, rev_c, rev_n, app_c, app_n, tol_s, tol_n, Nat.le_refl, s1i_e, s2i_e, s1r_e, sir_e, siir_e, srir_e, c1_i, c1_r, s1v_e, s2v_e, ldv_0, ldv_s, ldx_0, ldx_s, ldi_0, ldi_s, ldr_0, ldr_s, fg_0_0, fg_0_1, fg_0_2, fg_0_3, fg_0_4, fg_0_5, fg_1_0, fg_1_1, fg_1_2, fg_1_3, fg_1_4, fg_1_5, fg_1_6, fg_1_7, fg_2_0, fg_2_1, fg_2_2, fg_2_3, fg_2_4, fg_2_5, fg_3_0, fg_3_1, fg_4_0, fg_4_1, fg_4_2, fg_4_3, fg_4_4, fg_4_5, fg_5_0, fg_5_1, fg_5_2, fg_5_3, fg_5_4, fg_5_5, fg_5_6, fg_6_0, fg_6_1, fg_6_2, fg_6_3, fg_7_0, fg_7_1, fg_7_2, fg_7_3, fg_7_4, fg_7_5, fg_8_0, fg_8_1, fg_8_2, fg_8_3, fg_8_4, fg_8_5, fg_8_6, fg_8_7, fg_8_8, fg_8_9, fg_8_10, fg_8_11, fg_8_12, fg_8_13, cnt_0, cnt_1, cnt_2, cnt_3, cnt_4, cnt_5, cnt_6, cnt_7, cnt_8, cnt_9, cnt_10, cnt_11, cnt_12, cnt_13, cnt_14, fk, stepd_ok dX4_findOnSpiral_0, sf_aload_n0, stepd_ok dX4_findOnSpiral_1, sf_aload_n1, stepd_ok dX4_findOnSpiral_2, sf_aload_n2, stepd_ok dX4_findOnSpiral_3, sf_getfield (P := pr_X4_findOnSpiral) ftX4_114, stepd_ok dX4_findOnSpiral_6, sf_inv (P := pr_X4_findOnSpiral) ca_X4_findOnSpiral_117 rfl, stepd_ok dX4_findOnSpiral_9, sf_iconst, stepd_ok dX4_findOnSpiral_10, sf_istore, stepd_ok dX4_findOnSpiral_12, sf_iload, stepd_ok dX4_findOnSpiral_14, sf_sipush, stepd_ok dX4_findOnSpiral_17, jk_at (pc := 17) (off := 40) (t := 57) rfl, jo_at (pc := 17) (off := 40) (t := 57) rfl, sf_if_icmp_ge, stepd_ok dX4_findOnSpiral_20, stepd_ok dX4_findOnSpiral_21, stepd_ok dX4_findOnSpiral_22, stepd_ok dX4_findOnSpiral_23, sf_iload_n3, stepd_ok dX4_findOnSpiral_24, stepd_ok dX4_findOnSpiral_25, sf_inv (P := pr_X4_findOnSpiral) ca_X4_findOnSpiral_121 rfl, stepd_ok dX4_findOnSpiral_28, jk_at (pc := 28) (off := 14) (t := 42) rfl, jo_at (pc := 28) (off := 14) (t := 42) rfl, sf_ifCond_ne, stepd_ok dX4_findOnSpiral_31, stepd_ok dX4_findOnSpiral_32, stepd_ok dX4_findOnSpiral_33, stepd_ok dX4_findOnSpiral_34, stepd_ok dX4_findOnSpiral_35, stepd_ok dX4_findOnSpiral_36, stepd_ok dX4_findOnSpiral_39, jk_at (pc := 39) (off := 5) (t := 44) rfl, jo_at (pc := 39) (off := 5) (t := 44) rfl, sf_ifCond_eq, stepd_ok dX4_findOnSpiral_42, stepd_ok dX4_findOnSpiral_43, stepd_ok dX4_findOnSpiral_44, stepd_ok dX4_findOnSpiral_45, sf_getfield (P := pr_X4_findOnSpiral) ftX4_28, stepd_ok dX4_findOnSpiral_48, sf_inv (P := pr_X4_findOnSpiral) ca_X4_findOnSpiral_125 rfl, stepd_ok dX4_findOnSpiral_51, sf_iinc, stepd_ok dX4_findOnSpiral_54, jk_at (pc := 54) (off := -42) (t := 12) rfl, sf_goto, stepd_ok dX4_findOnSpiral_57, stepd_ok dX4_findOnSpiral_58, sf_iret2 (P := pr_X4_findOnSpiral) rfl rfl, sp_X4_beginSpiral_e, sp_X4_standsAtPoint_e, sp_X5_goOn_e, Nat.zero_lt_one, hc, he, hLτ, hEτ, s1, s2, n1, n2, hb]
      simp only [frl_pos hF hc hL, f2]
      rw [h5 0 (by omega), h5 1 (by omega)]
      refine ⟨by unfold inR; omega, fun _ σ1 g1 g5 gc => ⟨fun hf => ?_, fun hf => ?_⟩, fun h => absurd h (by omega)⟩
      · have F1 := FrL_trans hF g1
        have k := hK σ1 1 x0 y0 _ _ 0 hS0 F1 (Or.inl ⟨rfl, t, by omega, hall, rfl, rfl, hf, Or.inl rfl⟩) (fun _ => gc hf) (Or.inr rfl)
        exact k
      · have F1 := FrL_trans hF g1
        have hL1 := frl_lst F1 hc hL
        have f21 : ∀ k, σ1 2 e k = σ 2 e k := fun k => F1.1 2 e k (by omega) (by omega) (by omega)
        have hE1 : EntOK σ1 e := ent_congr (fun c' k _ => F1.1 c' e k (by omega) (by omega) (by omega)) hE
        have n11 : near (σ1 5 0 0) := by rw [g5, h5 0 (by omega)]; unfold near; omega
        have n21 : near (σ1 5 0 1) := by rw [g5, h5 1 (by omega)]; unfold near; omega
        have hb1 := F1.2.2.2
        refine ⟨hL1, hE1, n11, n21, hb1, fun σ2 q1 q5 qc => ?_⟩
        have w0 : σ1 5 0 0 = spv x0 y0 (σ 1 c 5) t 0 := by rw [g5, h5 0 (by omega)]
        have w1 : σ1 5 0 1 = spv x0 y0 (σ 1 c 5) t 1 := by rw [g5, h5 1 (by omega)]
        rw [frl_pos F1 hc hL, f21, f21, w0, w1] at qc ⊢
        have F2 := FrL_trans F1 q1
        have w2 : ∀ k : Nat, k < 7 → σ2 5 0 k = spv x0 y0 (σ 1 c 5) t k := fun k hk => by rw [q5, g5, h5 k hk]
        refine ⟨fun hg => ?_, fun hg => ?_⟩
        · have k := hK σ2 1 x0 y0 _ _ 1 hS0 F2 (Or.inl ⟨rfl, t, by omega, hall, rfl, rfl, hg, Or.inr ⟨rfl, hf⟩⟩) (fun _ => qc hg) (Or.inr rfl)
          exact k
        · rw [w2 0 (by omega), w2 1 (by omega), w2 2 (by omega), w2 3 (by omega), w2 4 (by omega), w2 5 (by omega), w2 6 (by omega)]
          refine ⟨v.2.2.2.2.2.2, by unfold sm; omega, fun σ' a1 a2 a3 => ?_⟩
          refine ih (t + 1) (by omega) σ' (FrL_trans F2 (fr5_frl a3 F2.2.1 (frl_phy F2 hL.1))) (fun k hk => ?_) (fun t' ht' => ?_)
          · have ee : spv x0 y0 (σ 1 c 5) (t + 1) = spN (spv x0 y0 (σ 1 c 5) t) := rfl
            rw [ee]
            by_cases g : spv x0 y0 (σ 1 c 5) t 5 - 1 = 0
            · obtain ⟨e0, e1, e2, e3, e4, e5, e6⟩ := a1 g
              rcases (show k = 0 ∨ k = 1 ∨ k = 2 ∨ k = 3 ∨ k = 4 ∨ k = 5 ∨ k = 6 by omega) with h | h | h | h | h | h | h <;> subst h <;> simp [spN, g, e0, e1, e2, e3, e4, e5, e6]
            · obtain ⟨e0, e1, e2, e3, e4, e5, e6⟩ := a2 g
              rcases (show k = 0 ∨ k = 1 ∨ k = 2 ∨ k = 3 ∨ k = 4 ∨ k = 5 ∨ k = 6 by omega) with h | h | h | h | h | h | h <;> subst h <;> simp [spN, g, e0, e1, e2, e3, e4, e5, e6]
          · rcases Nat.lt_succ_iff_lt_or_eq.mp ht' with a | a
            · exact hall t' a
            · subst a; exact fun z => z.elim hf hg
  show G 0 [vr 4 0, vr 1 c, vr 2 e, vi s, vj] [] σ 0
  refine run hG [12] 60 ?_
  simp only [wpn_s, wpn_0, br_T, br_F, st1, st2, true_and, and_true, ↓reduceIte, if_true, if_false, List.contains_nil, List.contains_cons, Bool.or_false, Bool.or_true, Bool.true_or, Bool.false_or, Bool.false_eq_true, bit_0, bit_1, bit_b, true_or, or_true, or_false, false_or, up_e, up_nc, up_nj, ne_eq, not_false_eq_true, not_true_eq_false, inR_n, inR_m1, bi_RT, br_bi, Nat.reduceAdd, Nat.reduceLT, Nat.reduceLeDiff, Nat.reduceEqDiff, Nat.reduceBEq, Nat.zero_le, Int.reduceAdd, Int.reduceNeg, Int.reduceLE, Int.reduceLT, Int.reduceToNat, Int.reduceNatCast, Int.reduceEq, Int.reduceSub, Int.reduceMul, set_0, set_s, len_c, len_n, nc2_0, nc2_1i, nc2_1r, nc2_1j, nc2_s, rcv_e, take_c, take_z, drop_c, drop_z, rev_c, rev_n, app_c, app_n, tol_s, tol_n, Nat.le_refl, s1i_e, s2i_e, s1r_e, sir_e, siir_e, srir_e, c1_i, c1_r, s1v_e, s2v_e, ldv_0, ldv_s, ldx_0, ldx_s, ldi_0, ldi_s, ldr_0, ldr_s, fg_0_0, fg_0_1, fg_0_2, fg_0_3, fg_0_4, fg_0_5, fg_1_0, fg_1_1, fg_1_2, fg_1_3, fg_1_4, fg_1_5, fg_1_6, fg_1_7, fg_2_0, fg_2_1, fg_2_2, fg_2_3, fg_2_4, fg_2_5, fg_3_0, fg_3_1, fg_4_0, fg_4_1, fg_4_2, fg_4_3, fg_4_4, fg_4_5, fg_5_0, fg_5_1, fg_5_2, fg_5_3, fg_5_4, fg_5_5, fg_5_6, fg_6_0, fg_6_1, fg_6_2, fg_6_3, fg_7_0, fg_7_1, fg_7_2, fg_7_3, fg_7_4, fg_7_5, fg_8_0, fg_8_1, fg_8_2, fg_8_3, fg_8_4, fg_8_5, fg_8_6, fg_8_7, fg_8_8, fg_8_9, fg_8_10, fg_8_11, fg_8_12, fg_8_13, cnt_0, cnt_1, cnt_2, cnt_3, cnt_4, cnt_5, cnt_6, cnt_7, cnt_8, cnt_9, cnt_10, cnt_11, cnt_12, cnt_13, cnt_14, fk, stepd_ok dX4_findOnSpiral_0, sf_aload_n0, stepd_ok dX4_findOnSpiral_1, sf_aload_n1, stepd_ok dX4_findOnSpiral_2, sf_aload_n2, stepd_ok dX4_findOnSpiral_3, sf_getfield (P := pr_X4_findOnSpiral) ftX4_114, stepd_ok dX4_findOnSpiral_6, sf_inv (P := pr_X4_findOnSpiral) ca_X4_findOnSpiral_117 rfl, stepd_ok dX4_findOnSpiral_9, sf_iconst, stepd_ok dX4_findOnSpiral_10, sf_istore, stepd_ok dX4_findOnSpiral_12, sf_iload, stepd_ok dX4_findOnSpiral_14, sf_sipush, stepd_ok dX4_findOnSpiral_17, jk_at (pc := 17) (off := 40) (t := 57) rfl, jo_at (pc := 17) (off := 40) (t := 57) rfl, sf_if_icmp_ge, stepd_ok dX4_findOnSpiral_20, stepd_ok dX4_findOnSpiral_21, stepd_ok dX4_findOnSpiral_22, stepd_ok dX4_findOnSpiral_23, sf_iload_n3, stepd_ok dX4_findOnSpiral_24, stepd_ok dX4_findOnSpiral_25, sf_inv (P := pr_X4_findOnSpiral) ca_X4_findOnSpiral_121 rfl, stepd_ok dX4_findOnSpiral_28, jk_at (pc := 28) (off := 14) (t := 42) rfl, jo_at (pc := 28) (off := 14) (t := 42) rfl, sf_ifCond_ne, stepd_ok dX4_findOnSpiral_31, stepd_ok dX4_findOnSpiral_32, stepd_ok dX4_findOnSpiral_33, stepd_ok dX4_findOnSpiral_34, stepd_ok dX4_findOnSpiral_35, stepd_ok dX4_findOnSpiral_36, stepd_ok dX4_findOnSpiral_39, jk_at (pc := 39) (off := 5) (t := 44) rfl, jo_at (pc := 39) (off := 5) (t := 44) rfl, sf_ifCond_eq, stepd_ok dX4_findOnSpiral_42, stepd_ok dX4_findOnSpiral_43, stepd_ok dX4_findOnSpiral_44, stepd_ok dX4_findOnSpiral_45, sf_getfield (P := pr_X4_findOnSpiral) ftX4_28, stepd_ok dX4_findOnSpiral_48, sf_inv (P := pr_X4_findOnSpiral) ca_X4_findOnSpiral_125 rfl, stepd_ok dX4_findOnSpiral_51, sf_iinc, stepd_ok dX4_findOnSpiral_54, jk_at (pc := 54) (off := -42) (t := 12) rfl, sf_goto, stepd_ok dX4_findOnSpiral_57, stepd_ok dX4_findOnSpiral_58, sf_iret2 (P := pr_X4_findOnSpiral) rfl rfl, sp_X4_beginSpiral_e, sp_X4_standsAtPoint_e, sp_X5_goOn_e, Nat.zero_lt_one, hc, he, hL2, rg]
  intro σ' x y hS0 hx hsp h5
  refine loop x y hS0 hx 1500 0 rfl σ' (fr5_frl h5 hL.2.2.2.2.2 hL.1) (fun k hk => ?_) (fun t' h => absurd h (by omega))
  obtain ⟨e0, e1, e2, e3, e4, e5, e6⟩ := hsp
  rcases (show k = 0 ∨ k = 1 ∨ k = 2 ∨ k = 3 ∨ k = 4 ∨ k = 5 ∨ k = 6 by omega) with h | h | h | h | h | h | h <;> subst h <;> simp [spv, sp0, e0, e1, e2, e3, e4, e5, e6]
theorem cn_X4_findOnSpiral (l : Launch) (Γ : Ga) : Cn l Γ yX4_findOnSpiral (wsy yX4_findOnSpiral cX4_findOnSpiral 5 (some .boolean)) rm_X4_findOnSpiral 0 sp_X4_findOnSpiral := Cn_of (P := pr_X4_findOnSpiral) (own := RX4) (by decide) rfl rfl (by decide) rfl ⟨rfl, rfl⟩ ftX4_ok (List.forall_mem_cons.mpr ⟨callV_of (rc := 4) (cn_X4_beginSpiral l Γ) rfl rfl (List.forall_mem_cons.mpr ⟨wl_X4_117, fun _ h => wm_X4_beginSpiral h⟩) ⟨rfl, by decide, by decide, by decide +kernel⟩ ⟨by decide, by decide⟩, List.forall_mem_cons.mpr ⟨callV_of (rc := 4) (cn_X4_standsAtPoint l Γ) rfl rfl (List.forall_mem_cons.mpr ⟨wl_X4_121, fun _ h => wm_X4_standsAtPoint h⟩) ⟨rfl, by decide, by decide, by decide +kernel⟩ ⟨by decide, by decide⟩, List.forall_mem_cons.mpr ⟨callV_of (rc := 5) (cn_X5_goOn l Γ) rfl rfl (List.forall_mem_cons.mpr ⟨wl_X4_125, fun _ h => wm_X5_goOn h⟩) ⟨rfl, by decide, by decide, by decide +kernel⟩ ⟨by decide, by decide⟩, fun _ h => (List.not_mem_nil h).elim⟩⟩⟩) (fun _ h => (List.not_mem_nil h).elim) (fun _ _ _ _ _ _ _ _ _ _ q hq => (List.not_mem_nil hq).elim) sem_X4_findOnSpiral
