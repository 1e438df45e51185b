/-- what a try of the laying may change -/
def FrL (σ σ' : Sto) : Prop := (∀ c i k : Nat, (c ≠ 0 ∨ i ≠ 144 ∨ k = 0) → (c ≠ 4 ∨ i ≠ 0 ∨ k ≠ 5) → (c ≠ 5 ∨ i ≠ 0) → σ' c i k = σ c i k) ∧ (0 ≤ σ' 4 0 5 ∧ σ' 4 0 5 ≤ 24) ∧ bx4 σ' 144 ∧ bitOK (σ' 0 144 1)
theorem FrL_trans {a b c : Sto} (h1 : FrL a b) (h2 : FrL b c) : FrL a c := ⟨fun d i k o1 o2 o3 => by rw [h2.1 d i k o1 o2 o3, h1.1 d i k o1 o2 o3], h2.2⟩
theorem frl_phy {σ σ' : Sto} (h : FrL σ σ') (hP : Phy σ) : Phy σ' := by
  have f9 : ∀ c k, σ' 9 c k = σ 9 c k := fun c k => h.1 9 c k (by omega) (by omega) (by omega)
  have f11 : ∀ c k, σ' 11 c k = σ 11 c k := fun c k => h.1 11 c k (by omega) (by omega) (by omega)
  refine ⟨fun e he => ?_, fun c hc j hj => by rw [f9]; exact hP.2.1 c hc j hj, fun c hc j hj j' hj' e => hP.2.2.1 c hc j hj j' hj' (by rw [← f9, ← f9]; exact e), fun j hj => by rw [f11]; exact hP.2.2.2.1 j hj, fun j hj j' hj' e => hP.2.2.2.2 j hj j' hj' (by rw [← f11, ← f11]; exact e)⟩
  by_cases g : e = 144
  · subst g
    refine ⟨h.2.2.1, ?_, h.2.2.2⟩
    rw [h.1 0 144 0 (by omega) (by omega) (by omega)]
    exact (hP.1 144 he).2.1
  · have f0 : ∀ k, σ' 0 e k = σ 0 e k := fun k => h.1 0 e k (by omega) (by omega) (by omega)
    unfold bx4
    simp only [f0]
    exact hP.1 e he
theorem frl_cl {σ σ' : Sto} {c : Nat} (h : FrL σ σ') (hc : c < 6) (hP : Phy σ) (hC : ClOK σ c) : ClOK σ' c :=
  cl_congr (h.1 1 c 1 (by omega) (by omega) (by omega)) (fun k => h.1 9 c k (by omega) (by omega) (by omega)) (fun i hi c' k _ => h.1 c' _ k (Or.inr (Or.inl (by have := en_lt hP hc (show i < 24 by have := hC.1; unfold cn_ at hi; omega); omega))) (by omega) (by omega)) hC
theorem frl_pb {σ σ' : Sto} {c i : Nat} (h : FrL σ σ') : pb σ' c i = pb σ c i := by
  unfold pb en; rw [h.1 12 1 i (by omega) (by omega) (by omega), h.1 9 c _ (by omega) (by omega) (by omega)]
theorem pb_lt {σ : Sto} {c i : Nat} (hc : c < 6) (hL : LSt σ c) (hi : (i : Int) < σ 4 0 4) : pb σ c i < 144 ∧ EntOK σ (pb σ c i) ∧ 0 ≤ σ 12 1 i ∧ σ 12 1 i < 24 := by
  obtain ⟨hP, hC, -, -, hpl, -⟩ := hL
  have a := hpl i hi
  have n := hC.1
  exact ⟨(en_lt hP hc (by omega)).1, hC.2 _ (by unfold cn_; omega), a.1, by omega⟩
theorem frl_lst {σ σ' : Sto} {c : Nat} (h : FrL σ σ') (hc : c < 6) (hL : LSt σ c) : LSt σ' c := by
  obtain ⟨hP, hC, hS, hp, hpl, hl⟩ := hL
  have f1 : ∀ k, σ' 1 c k = σ 1 c k := fun k => h.1 1 c k (by omega) (by omega) (by omega)
  refine ⟨frl_phy h hP, frl_cl h hc hP hC, ?_, ?_, ?_, h.2.1⟩
  · unfold SetOK; simp only [f1]; exact hS
  · rw [h.1 4 0 4 (by omega) (by omega) (by omega)]; exact hp
  · rw [h.1 4 0 4 (by omega) (by omega) (by omega)]
    intro i hi
    rw [h.1 12 1 i (by omega) (by omega) (by omega), f1]
    exact hpl i hi
theorem frl_pos {σ σ' : Sto} {c : Nat} (h : FrL σ σ') (hc : c < 6) (hL : LSt σ c) : PosAt σ' c = PosAt σ c := by
  funext l t w k
  have f1 : ∀ k, σ' 1 c k = σ 1 c k := fun k => h.1 1 c k (by omega) (by omega) (by omega)
  unfold PosAt
  rw [f1, f1, f1, h.1 4 0 4 (by omega) (by omega) (by omega)]
  apply propext
  refine and_congr_right fun _ => and_congr_right fun _ => and_congr_right fun _ => and_congr_right fun _ => forall_congr' fun i => ?_
  refine ⟨fun g hi => ?_, fun g hi => ?_⟩
  · have := g hi
    have e := pb_lt hc hL hi
    have f0 : ∀ k, σ' 0 (pb σ c i) k = σ 0 (pb σ c i) k := fun k => h.1 0 _ k (by omega) (by omega) (by omega)
    rw [frl_pb h, f0, f0, f0, f0] at this
    exact this
  · have e := pb_lt hc hL hi
    have f0 : ∀ k, σ' 0 (pb σ c i) k = σ 0 (pb σ c i) k := fun k => h.1 0 _ k (by omega) (by omega) (by omega)
    rw [frl_pb h, f0, f0, f0, f0]
    exact g hi
def alw (d u : Int) : Prop := (u = 1 ∧ d ≠ 0) ∨ (u = 0 ∧ d ≠ 1)
def TryB (PB : Int → Int → Int → Int → Prop) (d len s x y u : Int) : Prop := alw d u ∧ PB (x - bwF u len s / 2) (y - bhF u len s / 2) (bwF u len s) (bhF u len s)
/-- the candidate stands around x, y -/
def Cand (σ : Sto) (len s x y u : Int) : Prop := σ 0 144 1 = u ∧ σ 0 144 2 = x - bwF u len s / 2 ∧ σ 0 144 3 = y - bhF u len s / 2 ∧ σ 0 144 4 = bwF u len s ∧ σ 0 144 5 = bhF u len s
theorem bw_r {u len s : Int} (h1 : 1 ≤ len ∧ len ≤ 10) (h2 : 1 ≤ s ∧ s ≤ 8) : 0 ≤ bwF u len s ∧ bwF u len s ≤ 80 ∧ 1 ≤ bwF u len s := by
  unfold bwF
  split
  · omega
  · have a : 1 * 1 ≤ len * s := Int.mul_le_mul h1.1 h2.1 (by omega) (by omega)
    have b : len * s ≤ 10 * 8 := Int.mul_le_mul h1.2 h2.2 (by omega) (by omega)
    omega
theorem bh_r {u len s : Int} (h1 : 1 ≤ len ∧ len ≤ 10) (h2 : 1 ≤ s ∧ s ≤ 8) : 0 ≤ bhF u len s ∧ bhF u len s ≤ 80 ∧ 1 ≤ bhF u len s := by
  unfold bhF
  split
  · have a : 1 * 1 ≤ len * s := Int.mul_le_mul h1.1 h2.1 (by omega) (by omega)
    have b : len * s ≤ 10 * 8 := Int.mul_le_mul h1.2 h2.2 (by omega) (by omega)
    omega
  · omega
def near (x : Int) : Prop := -20000 ≤ x ∧ x ≤ 20000
def sp_X4_standsAtPoint : Spec := fun a σ K KX => ∃ (i : Nat) (c : Nat) (e : Nat) (s : Int) (u : Int), a = [vr 4 i, vr 1 c, vr 2 e, vi s, vi u] ∧ (i < 1 ∧ c < 6 ∧ e < 144 ∧ LSt σ c ∧ EntOK σ e ∧ (1 ≤ s ∧ s ≤ 8) ∧ bitOK u ∧ near (σ 5 0 0) ∧ near (σ 5 0 1) ∧ bitOK (σ 0 144 1) ∧ ∀ σ', FrL σ σ' → (∀ k : Nat, σ' 5 0 k = σ 5 0 k) → (TryB (PosAt σ c) (σ 2 e 4) (σ 2 e 2) s (σ 5 0 0) (σ 5 0 1) u → Cand σ' (σ 2 e 2) s (σ 5 0 0) (σ 5 0 1) u) → K (some (vi (bi (TryB (PosAt σ c) (σ 2 e 4) (σ 2 e 2) s (σ 5 0 0) (σ 5 0 1) u)))) σ')
theorem sp_X4_standsAtPoint_e {i : Nat} {c : Nat} {e : Nat} {s : Int} {u : Int} {σ : Sto} {K : Option AV → Sto → Prop} {KX : Nat → Sto → Prop} : sp_X4_standsAtPoint [vr 4 i, vr 1 c, vr 2 e, vi s, vi u] σ K KX = (i < 1 ∧ c < 6 ∧ e < 144 ∧ LSt σ c ∧ EntOK σ e ∧ (1 ≤ s ∧ s ≤ 8) ∧ bitOK u ∧ near (σ 5 0 0) ∧ near (σ 5 0 1) ∧ bitOK (σ 0 144 1) ∧ ∀ σ', FrL σ σ' → (∀ k : Nat, σ' 5 0 k = σ 5 0 k) → (TryB (PosAt σ c) (σ 2 e 4) (σ 2 e 2) s (σ 5 0 0) (σ 5 0 1) u → Cand σ' (σ 2 e 2) s (σ 5 0 0) (σ 5 0 1) u) → K (some (vi (bi (TryB (PosAt σ c) (σ 2 e 4) (σ 2 e 2) s (σ 5 0 0) (σ 5 0 1) u)))) σ') := propext ⟨fun h => by obtain ⟨_, _, _, _, _, h, hb⟩ := h; cases h; exact hb, fun hb => ⟨_, _, _, _, _, rfl, hb⟩⟩
def pr_X4_standsAtPoint : Par := (ftX4, [(91, (2, 0, 2 + 1, sp_X2_allows)), (95, (4, 0, 4 + 1, sp_X4_measure)), (106, (3, 0, 0 + 1, sp_X0_standAround)), (110, (2, 0, 4 + 1, sp_X4_isPossible))], [], [], 2, 0, none)
def rm_X4_standsAtPoint : Room := { frames := 2, cells := 0, slots := 0, locals := 45 }
theorem ca_X4_standsAtPoint_91 : List.lookup 91 pr_X4_standsAtPoint.2.1 = some (2, 0, 2 + 1, sp_X2_allows) := rfl
theorem ca_X4_standsAtPoint_95 : List.lookup 95 pr_X4_standsAtPoint.2.1 = some (4, 0, 4 + 1, sp_X4_measure) := rfl
theorem ca_X4_standsAtPoint_106 : List.lookup 106 pr_X4_standsAtPoint.2.1 = some (3, 0, 0 + 1, sp_X0_standAround) := rfl
theorem ca_X4_standsAtPoint_110 : List.lookup 110 pr_X4_standsAtPoint.2.1 = some (2, 0, 4 + 1, sp_X4_isPossible) := rfl
set_option maxRecDepth 100000 in
set_option maxHeartbeats 4000000 in
theorem sem_X4_standsAtPoint : Sem pr_X4_standsAtPoint cX4_standsAtPoint 5 sp_X4_standsAtPoint := by
  rintro a σ K KX ⟨i, c, e, s, u, rfl, hi, hc, he, hL, hE, hs, hu, n1, n2, hb, hK⟩
  refine ⟨by simp [vr, vi, nj], Nat.le_of_ble_eq_true rfl, fun G hG => ?_⟩
  have hi0 : i = 0 := by omega
  subst hi0
  have smd : sm (σ 2 e 4) := by have := hE.2.2.2.1; unfold sm; omega
  have bw := bw_r (u := u) hE.1 hs
  have bh := bh_r (u := u) hE.1 hs
  have b1 := bw.1
  have b2 := bh.1
  have b3 : inR (bwF u (σ 2 e 2) s) := by unfold inR; omega
  have b4 : inR (bhF u (σ 2 e 2) s) := by unfold inR; omega
  unfold near at n1 n2
  have r1 : inR (σ 5 0 0) := by unfold inR; omega
  have r2 : inR (σ 5 0 1) := by unfold inR; omega
  show G 0 [vr 4 0, vr 1 c, vr 2 e, vi s, vi u] [] σ 0
  refine run hG [] 60 ?_
  simp only [wpn_s, wpn_0, br_T, br_F, st1, st2, true_and, and_true, ↓reduceIte, if_true, if_false, List.contains_nil, List.contains_cons, Bool.or_false, Bool.or_true, Bool.true_or, Bool.false_or, Bool.false_eq_true, bit_0, bit_1, bit_b, true_or, or_true, or_false, false_or, up_e, up_nc, up_nj, ne_eq, not_false_eq_true, not_true_eq_false, inR_n, inR_m1, bi_RT, br_bi, Nat.reduceAdd, Nat.reduceLT, Nat.reduceLeDiff, Nat.reduceEqDiff, Nat.reduceBEq, Nat.zero_le, Int.reduceAdd, Int.reduceNeg, Int.reduceLE, Int.reduceLT, Int.reduceToNat, Int.reduceNatCast, Int.reduceEq, Int.reduceSub, Int.reduceMul, rcv_e, take_c, take_z, drop_c, drop_z, rev_c, rev_n, app_c, app_n, tol_s, tol_n, len_c, len_n, Nat.le_refl, s1i_e, s2i_e, s1r_e, sir_e, siir_e, srir_e, c1_i, c1_r, s1v_e, s2v_e, ldv_0, ldv_s, ldx_0, ldx_s, ldi_0, ldi_s, ldr_0, ldr_s, fg_0_0, fg_0_1, fg_0_2, fg_0_3, fg_0_4, fg_0_5, fg_1_0, fg_1_1, fg_1_2, fg_1_3, fg_1_4, fg_1_5, fg_1_6, fg_1_7, fg_2_0, fg_2_1, fg_2_2, fg_2_3, fg_2_4, fg_2_5, fg_3_0, fg_3_1, fg_4_0, fg_4_1, fg_4_2, fg_4_3, fg_4_4, fg_4_5, fg_5_0, fg_5_1, fg_5_2, fg_5_3, fg_5_4, fg_5_5, fg_5_6, fg_6_0, fg_6_1, fg_6_2, fg_6_3, fg_7_0, fg_7_1, fg_7_2, fg_7_3, fg_7_4, fg_7_5, fg_8_0, fg_8_1, fg_8_2, fg_8_3, fg_8_4, fg_8_5, fg_8_6, fg_8_7, fg_8_8, fg_8_9, fg_8_10, fg_8_11, fg_8_12, fg_8_13, cnt_0, cnt_1, cnt_2, cnt_3, cnt_4, cnt_5, cnt_6, cnt_7, cnt_8, cnt_9, cnt_10, cnt_11, cnt_12, cnt_13, cnt_14, fk, stepd_ok dX4_standsAtPoint_0, sf_aload_n2, stepd_ok dX4_standsAtPoint_1, sf_iload, stepd_ok dX4_standsAtPoint_3, sf_inv (P := pr_X4_standsAtPoint) ca_X4_standsAtPoint_91 rfl, stepd_ok dX4_standsAtPoint_6, jk_at (pc := 6) (off := 5) (t := 11) rfl, jo_at (pc := 6) (off := 5) (t := 11) rfl, sf_ifCond_ne, stepd_ok dX4_standsAtPoint_9, sf_iconst, stepd_ok dX4_standsAtPoint_10, stepd_ok dX4_standsAtPoint_11, sf_aload_n0, stepd_ok dX4_standsAtPoint_12, stepd_ok dX4_standsAtPoint_13, sf_iload_n3, stepd_ok dX4_standsAtPoint_14, stepd_ok dX4_standsAtPoint_16, sf_inv (P := pr_X4_standsAtPoint) ca_X4_standsAtPoint_95 rfl, stepd_ok dX4_standsAtPoint_19, stepd_ok dX4_standsAtPoint_20, sf_getfield (P := pr_X4_standsAtPoint) ftX4_21, stepd_ok dX4_standsAtPoint_23, stepd_ok dX4_standsAtPoint_24, sf_getfield (P := pr_X4_standsAtPoint) ftX4_28, stepd_ok dX4_standsAtPoint_27, sf_getfield (P := pr_X4_standsAtPoint) ftX4_140, stepd_ok dX4_standsAtPoint_30, stepd_ok dX4_standsAtPoint_31, stepd_ok dX4_standsAtPoint_34, sf_getfield (P := pr_X4_standsAtPoint) ftX4_143, stepd_ok dX4_standsAtPoint_37, sf_inv (P := pr_X4_standsAtPoint) ca_X4_standsAtPoint_106 rfl, stepd_ok dX4_standsAtPoint_40, stepd_ok dX4_standsAtPoint_41, sf_aload_n1, stepd_ok dX4_standsAtPoint_42, sf_inv (P := pr_X4_standsAtPoint) ca_X4_standsAtPoint_110 rfl, stepd_ok dX4_standsAtPoint_45, sf_iret2 (P := pr_X4_standsAtPoint) rfl rfl, sp_X2_allows_e, sp_X4_measure_e, sp_X0_standAround_e, sp_X4_isPossible_e, Nat.zero_lt_one, hc, he, hu, smd, b1, b2, b3, b4, r1, r2]
  have fr : ∀ σ', (∀ c' i k : Nat, (c' ≠ 4 ∨ i ≠ 0 ∨ k ≠ 5) → σ' c' i k = up3 (up3 (up3 (up3 (up3 σ 0 144 1 u) 0 144 4 (bwF u (σ 2 e 2) s)) 0 144 5 (bhF u (σ 2 e 2) s)) 0 144 2 (σ 5 0 0 - bwF u (σ 2 e 2) s / 2)) 0 144 3 (σ 5 0 1 - bhF u (σ 2 e 2) s / 2) c' i k) → (0 ≤ σ' 4 0 5 ∧ σ' 4 0 5 ≤ 24) → FrL σ σ' := by
    intro σ' h1 h2
    refine ⟨fun d i k o1 o2 o3 => ?_, h2, ?_, ?_⟩
    · rw [h1 d i k o2, up_k (by omega), up_k (by omega), up_k (by omega), up_k (by omega), up_k (by omega)]
    · unfold bx4 sm
      rw [h1 0 144 2 (by omega), h1 0 144 3 (by omega), h1 0 144 4 (by omega), h1 0 144 5 (by omega)]
      simp only [up3, and_self, ↓reduceIte, Nat.reduceEqDiff, and_false, reduceCtorEq]
      omega
    · rw [h1 0 144 1 (by omega)]
      simp only [up3, and_self, ↓reduceIte, Nat.reduceEqDiff, and_false, reduceCtorEq]
      exact hu
  have f0 := fr _ (fun _ _ _ _ => rfl) (by simp only [up3, and_self, ↓reduceIte, Nat.reduceEqDiff, false_and, reduceCtorEq]; exact hL.2.2.2.2.2)
  refine ⟨fun ha => ⟨frl_lst f0 hc hL, fun σ' h1 h2 => ?_⟩, fun ha => ?_⟩
  · have q := fr σ' h1 h2
    have hk := hK σ' q (fun k => by rw [h1 5 0 k (by omega), up_k (by omega), up_k (by omega), up_k (by omega), up_k (by omega), up_k (by omega)]) (fun _ => ⟨by rw [h1 0 144 1 (by omega)]; simp [up3], by rw [h1 0 144 2 (by omega)]; simp [up3], by rw [h1 0 144 3 (by omega)]; simp [up3], by rw [h1 0 144 4 (by omega)]; simp [up3], by rw [h1 0 144 5 (by omega)]; simp [up3]⟩)
    rw [frl_pos f0 hc hL]
    have e : TryB (PosAt σ c) (σ 2 e 4) (σ 2 e 2) s (σ 5 0 0) (σ 5 0 1) u = PosAt σ c (σ 5 0 0 - bwF u (σ 2 e 2) s / 2) (σ 5 0 1 - bhF u (σ 2 e 2) s / 2) (bwF u (σ 2 e 2) s) (bhF u (σ 2 e 2) s) := propext ⟨fun h => h.2, fun h => ⟨ha, h⟩⟩
    rw [e] at hk
    exact hk
  · have hk := hK σ ⟨fun _ _ _ _ _ _ => rfl, hL.2.2.2.2.2, (hL.1.1 144 (by omega)).1, hb⟩ (fun _ => rfl) (fun h => absurd h.1 ha)
    rw [bi_f (fun h => ha h.1)] at hk
    exact hk
theorem cn_X4_standsAtPoint (l : Launch) (Γ : Ga) : Cn l Γ yX4_standsAtPoint (wsy yX4_standsAtPoint cX4_standsAtPoint 5 (some .boolean)) rm_X4_standsAtPoint 0 sp_X4_standsAtPoint := Cn_of (P := pr_X4_standsAtPoint) (own := RX4) (by decide) rfl rfl (by decide) rfl ⟨rfl, rfl⟩ ftX4_ok (List.forall_mem_cons.mpr ⟨callV_of (rc := 2) (cn_X2_allows l Γ) rfl rfl (List.forall_mem_cons.mpr ⟨wl_X4_91, fun _ h => wm_X2_allows h⟩) ⟨rfl, by decide, by decide, by decide +kernel⟩ ⟨by decide, by decide⟩, List.forall_mem_cons.mpr ⟨callV_of (rc := 4) (cn_X4_measure l Γ) rfl rfl (List.forall_mem_cons.mpr ⟨wl_X4_95, fun _ h => wm_X4_measure h⟩) ⟨rfl, by decide, by decide, by decide +kernel⟩ ⟨by decide, by decide⟩, List.forall_mem_cons.mpr ⟨callV_of (rc := 0) (cn_X0_standAround l Γ) rfl rfl (List.forall_mem_cons.mpr ⟨wl_X4_106, fun _ h => wm_X0_standAround h⟩) ⟨rfl, by decide, by decide, by decide +kernel⟩ ⟨by decide, by decide⟩, List.forall_mem_cons.mpr ⟨callV_of (rc := 4) (cn_X4_isPossible l Γ) rfl rfl (List.forall_mem_cons.mpr ⟨wl_X4_110, fun _ h => wm_X4_isPossible h⟩) ⟨rfl, by decide, by decide, by decide +kernel⟩ ⟨by decide, by decide⟩, fun _ h => (List.not_mem_nil h).elim⟩⟩⟩⟩) (fun _ h => (List.not_mem_nil h).elim) (fun _ _ _ _ _ _ _ _ _ _ q hq => (List.not_mem_nil hq).elim) sem_X4_standsAtPoint
