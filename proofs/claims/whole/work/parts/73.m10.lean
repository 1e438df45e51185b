theorem posM_Z {τ : Sto} {z : Nat → Nat → Int} {w : Nat} (hz : ∀ o, o < nS (mS τ) → ZRow τ (z o) o) (hw : τ 12 8 w = 0) : PosM τ w = PosZ (mS τ) z := by
  funext l t ww hh
  unfold PosM PosZ
  apply propext
  constructor
  · rintro ⟨a, b, c, d, f⟩
    refine ⟨a, b, c, d, fun o ho hp => ?_⟩
    rcases hz o ho with ⟨e1, e2⟩ | ⟨e1, e2, -⟩
    · rw [e2 2] at hp; omega
    · have := f o ho (fun q => by subst q; omega) e1
      rw [e2 0 (by omega), e2 1 (by omega), e2 2 (by omega), e2 3 (by omega)]
      exact this
  · rintro ⟨a, b, c, d, f⟩
    refine ⟨a, b, c, d, fun o ho hne hp => ?_⟩
    rcases hz o ho with ⟨e1, e2⟩ | ⟨e1, e2, -⟩
    · omega
    · have := f o ho (by rw [e2 2 (by omega)]; exact hp)
      rw [e2 0 (by omega), e2 1 (by omega), e2 2 (by omega), e2 3 (by omega)] at this
      exact this
theorem its_Z {τ : Sto} {z : Nat → Nat → Int} {w o : Nat} (hz : ∀ o, o < nS (mS τ) → ZRow τ (z o) o) (hw : τ 12 8 w = 0) (ho : o < nS (mS τ)) : ItsM τ w o ↔ 0 < z o 2 ∧ mV τ o 13 = mV τ w 13 := by
  have e := (zrow_2 (hz o ho)).1
  unfold ItsM
  rw [e]
  exact ⟨fun h => h.2, fun h => ⟨fun q => by subst q; omega, h⟩⟩
theorem start_Z {τ : Sto} {z : Nat → Nat → Int} {w : Nat} {x y : Int} (hz : ∀ o, o < nS (mS τ) → ZRow τ (z o) o) (hw : τ 12 8 w = 0) (h : StartM τ w x y) : StartZ (mS τ) (mV τ) z (mV τ w 13) x y := by
  rcases h with ⟨b, hb, h1, h2, h3, h4⟩ | ⟨h1, h2⟩
  · have q := (its_Z hz hw hb).mp h1
    refine Or.inl ⟨b, hb, q.1, q.2, fun o ho ho2 hg => h2 o ho ((its_Z hz hw ho).mpr ⟨ho2, hg⟩), ?_, ?_⟩
    · rcases hz b hb with ⟨e1, e2⟩ | ⟨e1, e2, -⟩
      · rw [e2 2] at q; omega
      · rw [e2 0 (by omega), e2 2 (by omega)]; exact h3
    · rcases hz b hb with ⟨e1, e2⟩ | ⟨e1, e2, -⟩
      · rw [e2 2] at q; omega
      · rw [e2 1 (by omega), e2 3 (by omega)]; exact h4
  · exact Or.inr ⟨fun o ho ho2 hg => h1 o ho ((its_Z hz hw ho).mpr ⟨ho2, hg⟩), h2⟩
theorem start_fr {σ σ' : Sto} {w : Nat} {x y : Int} (h : FrR σ σ' w) (hs : StartM σ' w x y) : StartM σ w x y := by
  have e : ∀ i o, o ≠ w → σ' 12 i o = σ 12 i o := fun i o ho => h 12 i o (by omega)
  have its : ∀ o, ItsM σ' w o ↔ ItsM σ w o := fun o => by
    unfold ItsM
    rw [frR_V h]
    constructor
    · rintro ⟨a, b, c⟩; rw [e 8 o a] at b; exact ⟨a, b, c⟩
    · rintro ⟨a, b, c⟩; exact ⟨a, by rw [e 8 o a]; exact b, c⟩
  unfold StartM at hs ⊢
  simp only [its, frR_S h, frR_V h] at hs
  rcases hs with ⟨b, hb, h1, h2, h3, h4⟩ | h1
  · rw [e 6 b h1.1, e 8 b h1.1] at h3
    rw [e 7 b h1.1, e 9 b h1.1] at h4
    exact Or.inl ⟨b, hb, h1, h2, h3, h4⟩
  · exact Or.inr h1
def FrM (σ τ : Sto) : Prop := ∀ c i k : Nat, (c ≠ 12 ∨ i < 6 ∨ 10 < i) → (c ≠ 8 ∨ i ≠ 0 ∨ k ≠ 10) → τ c i k = σ c i k
theorem frM_S {σ τ : Sto} (h : FrM σ τ) : mS τ = mS σ := funext fun k => h 12 3 k (by omega) (by omega)
theorem frM_V {σ τ : Sto} (h : FrM σ τ) : mV τ = mV σ := funext fun o => funext fun k => h 12 3 _ (by omega) (by omega)
/-- the laying after r ranks -/
def LM (σ τ : Sto) (kp : Int) (r : Nat) (zs : Nat → Nat → Nat → Int) : Prop := RunZ (mS σ) (mV σ) kp r zs ∧ FrM σ τ ∧ (∀ o, o < nS (mS σ) → ZRow τ (zs r o) o) ∧ ∀ o, o < nS (mS σ) → (r : Int) ≤ rkV (mS σ) (mV σ) o → τ 12 8 o = 0
theorem lm_rb {σ τ : Sto} {kp : Int} {r w : Nat} {zs : Nat → Nat → Nat → Int} (h : LM σ τ kp r zs) : RB τ w := by
  intro o ho _
  rw [frM_S h.2.1] at ho
  rcases h.2.2.1 o ho with ⟨a, -⟩ | ⟨a, -, -, b⟩
  · exact ⟨by omega, fun z => by omega⟩
  · exact ⟨by omega, fun _ => b⟩
theorem lm_step {σ τ σ' : Sto} {kp f x y u : Int} {r w : Nat} {zs : Nat → Nat → Nat → Int} (hV : VOK (mS σ) (mV σ)) (h : LM σ τ kp r zs) (hw : w < nS (mS σ)) (hr : rkV (mS σ) (mV σ) w = r) (hF : FrR (up3 τ 8 0 10 (szV (mS σ) (mV σ) w)) σ' w) (hc : ChoZ (mS σ) (mV σ) (zs r) w kp f x y u) (hf : bitOK f) (h1 : f = 1 → TryB (PosZ (mS σ) (zs r)) (mV σ w 12) (mV σ w 0) (szV (mS σ) (mV σ) w) x y u ∧ RowIs σ' w x y u (mV σ w 0) (szV (mS σ) (mV σ) w)) (h0 : f = 0 → σ' 12 8 w = 0) : ∃ zs', LM σ σ' kp (r + 1) zs' := by
  obtain ⟨hrun, hfr, hz, hn⟩ := h
  obtain ⟨s, hs⟩ : ∃ s, s = szV (mS σ) (mV σ) w := ⟨_, rfl⟩
  have sr := szV_r hV hw
  rw [← hs] at sr hF h1
  have hW := hV.2 w hw
  have wl := hW.1
  obtain ⟨len, hl⟩ : ∃ len, len = mV σ w 0 := ⟨_, rfl⟩
  rw [← hl] at wl h1
  have ml0 : 1 ≤ len * s := by have := Int.mul_le_mul wl.1 sr.1 (by omega) (by omega); omega
  have rbw : 1 ≤ bwF u len s := by unfold bwF; split <;> omega
  have rbh : 1 ≤ bhF u len s := by unfold bhF; split <;> omega
  have fr2 : ∀ i o, o ≠ w → σ' 12 i o = τ 12 i o := fun i o ho => by rw [hF 12 i o (by omega), up_nc (by omega)]
  refine ⟨fun j => if j ≤ r then zs j else fun o k => if o = w then (if f = 1 then bxF x y u (mV σ w 0) (szV (mS σ) (mV σ) w) k else 0) else zs r o k, ⟨?_, ?_⟩, ?_, ?_, ?_⟩
  · intro o k
    show (if 0 ≤ r then zs 0 else _) o k = 0
    rw [if_pos (Nat.zero_le _)]
    exact hrun.1 o k
  · intro r' hr' w' hw' he
    rcases Nat.lt_succ_iff_lt_or_eq.mp hr' with q | q
    · show StepZ (mS σ) (mV σ) kp (if r' ≤ r then zs r' else _) (if r' + 1 ≤ r then zs (r' + 1) else _) w'
      rw [if_pos (by omega), if_pos (by omega)]
      exact hrun.2 r' q w' hw' he
    · subst q
      have ew : w' = w := rk_inj (wt := wtV (mV σ)) hw' hw (by unfold rkV at he hr; omega)
      subst ew
      show StepZ (mS σ) (mV σ) kp (if r' ≤ r' then zs r' else _) (if r' + 1 ≤ r' then zs (r' + 1) else _) w'
      rw [if_pos (Nat.le_refl _), if_neg (by omega)]
      exact ⟨f, x, y, u, hc, hf, fun o k ho => if_neg ho, fun k => if_pos rfl⟩
  · intro c i k a b
    rw [hF c i k (by omega), up_k (by omega)]
    exact hfr c i k a b
  · intro o ho
    show ZRow σ' ((if r + 1 ≤ r then zs (r + 1) else fun o k => if o = w then (if f = 1 then bxF x y u (mV σ w 0) (szV (mS σ) (mV σ) w) k else 0) else zs r o k) o) o
    rw [if_neg (by omega)]
    by_cases q : o = w
    · subst q
      show ZRow σ' (fun k => if o = o then (if f = 1 then bxF x y u (mV σ o 0) (szV (mS σ) (mV σ) o) k else 0) else zs r o k) o
      simp only [if_true]
      rw [← hl, ← hs]
      rcases hf with e | e
      · left
        refine ⟨h0 e, fun k => ?_⟩
        rw [if_neg (by omega)]
      · obtain ⟨⟨al, p1, p2, p3, p4, -⟩, g6, g7, g8, g9, g10⟩ := h1 e
        have v := bxF_v x y u len s
        have c0 := hV.1.1
        have c1 := hV.1.2.1
        right
        refine ⟨by omega, fun k hk => ?_, fun k hk => by rw [if_pos e]; exact bxF_5 x y u len s k hk, by omega, by omega, by omega, by rw [g10]; exact alw_bit al⟩
        rw [if_pos e]
        rcases (show k = 0 ∨ k = 1 ∨ k = 2 ∨ k = 3 ∨ k = 4 by omega) with q | q | q | q | q <;> subst q
        · rw [v.1, ← g6]
        · rw [v.2.1, ← g7]
        · rw [v.2.2.1, ← g8]
        · rw [v.2.2.2.1, ← g9]
        · rw [v.2.2.2.2, ← g10]
    · have := hz o ho
      show ZRow σ' (fun k => if o = w then _ else zs r o k) o
      simp only [if_neg q]
      unfold ZRow at this ⊢
      have e := fun i => fr2 i o q
      simp only [e]
      exact this
  · intro o ho hro
    have q : o ≠ w := fun z => by subst z; omega
    rw [fr2 8 o q]
    exact hn o ho (by omega)
def LayM (σ σ' : Sto) (z : Nat → Nat → Int) : Prop := (∀ k, k < 6 → σ' 12 3 k = σ 12 3 k) ∧ σ' 12 3 6 = ct (MovZ (mV σ) z) (nS (mS σ)) ∧ (∀ w, w < nS (mS σ) → (∀ k, k < 14 → mV σ' w k = mV σ w k) ∧ ∀ k, k < 5 → mV σ' w (14 + k) = z w k) ∧ (∀ c i k : Nat, (c ≠ 12 ∨ i < 3 ∨ (3 < i ∧ i < 6) ∨ 10 < i) → (c ≠ 8 ∨ i ≠ 0 ∨ k ≠ 10) → σ' c i k = σ c i k) ∧ VOK (mS σ') (mV σ') ∧ ∀ w, w < nS (mS σ) → ∃ τ, ZRow τ (z w) w
def sp_X8_laysAll : Spec := fun a σ K KX => ∃ (q : Nat) (kp : Int), a = [vr 8 q, vi kp] ∧ (q < 1 ∧ VOK (mS σ) (mV σ) ∧ bitOK kp ∧ ∀ σ' z, OutZ (mS σ) (mV σ) kp z → LayM σ σ' z → K (some (vi (ct (fun w => 0 < z w 2) (nS (mS σ))))) σ')
theorem sp_X8_laysAll_e {q : Nat} {kp : Int} {σ : Sto} {K : Option AV → Sto → Prop} {KX : Nat → Sto → Prop} : sp_X8_laysAll [vr 8 q, vi kp] σ K KX = (q < 1 ∧ VOK (mS σ) (mV σ) ∧ bitOK kp ∧ ∀ σ' z, OutZ (mS σ) (mV σ) kp z → LayM σ σ' z → K (some (vi (ct (fun w => 0 < z w 2) (nS (mS σ))))) σ') := propext ⟨fun h => by obtain ⟨_, _, h, hb⟩ := h; cases h; exact hb, fun hb => ⟨_, _, rfl, hb⟩⟩
def pr_X8_laysAll : Par := (ftX8, [(90, (2, 0, 8 + 1, sp_X8_ranked)), (93, (2, 0, 8 + 1, sp_X8_sizeOf)), (136, (2, 0, 8 + 1, sp_X8_keeps)), (139, (2, 0, 8 + 1, sp_X8_spirals)), (143, (1, 0, 8 + 1, sp_X8_takesOver2)), (104, (1, 0, 8 + 1, sp_X8_placed))], [], [], 1, 0, none)
def rm_X8_laysAll : Room := { frames := 5, cells := 0, slots := 0, locals := 122 }
theorem ca_X8_laysAll_90 : List.lookup 90 pr_X8_laysAll.2.1 = some (2, 0, 8 + 1, sp_X8_ranked) := rfl
theorem ca_X8_laysAll_93 : List.lookup 93 pr_X8_laysAll.2.1 = some (2, 0, 8 + 1, sp_X8_sizeOf) := rfl
theorem ca_X8_laysAll_136 : List.lookup 136 pr_X8_laysAll.2.1 = some (2, 0, 8 + 1, sp_X8_keeps) := rfl
theorem ca_X8_laysAll_139 : List.lookup 139 pr_X8_laysAll.2.1 = some (2, 0, 8 + 1, sp_X8_spirals) := rfl
theorem ca_X8_laysAll_143 : List.lookup 143 pr_X8_laysAll.2.1 = some (1, 0, 8 + 1, sp_X8_takesOver2) := rfl
theorem ca_X8_laysAll_104 : List.lookup 104 pr_X8_laysAll.2.1 = some (1, 0, 8 + 1, sp_X8_placed) := rfl
set_option maxRecDepth 100000 in
set_option maxHeartbeats 4000000 in
theorem sem_X8_laysAll : Sem pr_X8_laysAll cX8_laysAll 4 sp_X8_laysAll := by
  rintro a σ K KX ⟨q, kp, rfl, hq, hV, hkp, hK⟩
  refine ⟨by simp [vr, vi, vl, nj], Nat.le_of_ble_eq_true rfl, fun G hG => ?_⟩
  have hq0 : q = 0 := by omega
  subst hq0
  show G 0 [vr 8 0, vi kp, vj, vj] [] σ 0
  have hn := vok_n hV
  have en := nS_i hV
  have n24 := nS_24 hV
  have rn : inR (σ 12 3 5) := by unfold inR; omega
  have rkp : inR kp := by unfold bitOK at hkp; unfold inR; omega
  have last : ∀ (τ : Sto) (zs : Nat → Nat → Nat → Int), LM σ τ kp (nS (mS σ)) zs → ∀ v2 v3, G 71 [vr 8 0, vi kp, v2, v3] [] τ 0 := by
    intro τ zs hL v2 v3
    have eS := frM_S hL.2.1
    have eV := frM_V hL.2.1
    have hVτ : VOK (mS τ) (mV τ) := by rw [eS, eV]; exact hV
    have hrow : ∀ w, w < nS (mS τ) → 0 ≤ τ 12 8 w ∧ inR (τ 12 8 w) ∧ (0 < τ 12 8 w → ∀ i, 6 ≤ i → i ≤ 10 → inR (τ 12 i w)) := by
      intro w hw
      rw [eS] at hw
      rcases hL.2.2.1 w hw with ⟨a, b⟩ | ⟨a, b, c, d, e, f, g⟩
      · refine ⟨by omega, by unfold inR; omega, fun h => by omega⟩
      · refine ⟨by omega, by unfold inR; omega, fun _ i h1 h2 => ?_⟩
        unfold bitOK at g
        rcases (show i = 6 ∨ i = 7 ∨ i = 8 ∨ i = 9 ∨ i = 10 by omega) with q | q | q | q | q <;> subst q <;> unfold inR <;> omega
    have hz : ∀ w, w < nS (mS τ) → ∀ k, k < 5 → zs (nS (mS σ)) w k = zRaw τ w k := by
      intro w hw k hk
      rw [eS] at hw
      unfold zRaw
      rcases hL.2.2.1 w hw with ⟨a, b⟩ | ⟨a, b, -⟩
      · rw [b k, if_neg (by omega)]
      · rw [b k hk, if_pos a]
    have fin : ∀ σ', PutM τ σ' (zs (nS (mS σ))) → G 75 [vr 8 0, vi kp, v2, v3] [] σ' 0 := by
      intro σ' hp
      have hrows : ∀ w, w < nS (mS τ) → ∃ ρ, ZRow ρ (zs (nS (mS σ)) w) w := fun w hw => ⟨τ, hL.2.2.1 w (by rw [← eS]; exact hw)⟩
      obtain ⟨hV', hn'⟩ := putM_v hVτ hrows hp
      have k := hK σ' (zs (nS (mS σ))) ⟨zs, hL.1, rfl⟩ ⟨fun k hk => by rw [hp.1 k hk]; exact hL.2.1 12 3 k (by omega) (by omega), by rw [hp.2.1, eV, eS], fun w hw => by have := hp.2.2.1 w (by rw [eS]; exact hw); rw [eV] at this; exact this, fun c i k a b => by rw [hp.2.2.2 c i k a]; exact hL.2.1 c i k (by omega) b, hV', fun w hw => hrows w (by rw [eS]; exact hw)⟩
      have e : plcN (mS σ') (mV σ') = ct (fun w => 0 < zs (nS (mS σ)) w 2) (nS (mS σ)) := by
        unfold plcN
        rw [hn', eS]
        apply ct_congr
        intro w hw
        have := (hp.2.2.1 w (by rw [eS]; exact hw)).2 2 (by omega)
        rw [show 14 + 2 = 16 from rfl] at this
        rw [this]
      refine run hG [] 60 ?_
      simp only [wpn_s, wpn_0, br_T, br_F, st1, st2, true_and, and_true, ↓reduceIte, if_true, if_false, List.contains_nil, List.contains_cons, Bool.or_false, Bool.or_true, Bool.true_or, Bool.false_or, Bool.false_eq_true, bit_0, bit_1, bit_b, true_or, or_true, or_false, false_or, up_e, up_nc, up_nj, ne_eq, not_false_eq_true, not_true_eq_false, inR_n, inR_m1, bi_RT, br_bi, Nat.reduceAdd, Nat.reduceLT, Nat.reduceLeDiff, Nat.reduceEqDiff, Nat.reduceBEq, Nat.zero_le, Int.reduceAdd, Int.reduceNeg, Int.reduceLE, Int.reduceLT, Int.reduceToNat, Int.reduceNatCast, Int.reduceEq, Int.reduceSub, Int.reduceMul, false_implies, true_implies, implies_true, set_0, set_s, len_c, len_n, nc2_0, nc2_1i, nc2_1r, nc2_1j, nc2_s, rcv_e, take_c, take_z, drop_c, drop_z, rev_c, rev_n, app_c, app_n, tol_s, tol_n, Nat.le_refl, cnt_0, cnt_1, cnt_2, cnt_3, cnt_4, cnt_5, cnt_6, cnt_7, cnt_8, cnt_9, cnt_10, cnt_11, cnt_12, cnt_13, cnt_14, s1i_e, s2i_e, s1r_e, sir_e, siir_e, srir_e, c1_i, c1_r, s1v_e, s2v_e, ldv_0, ldv_s, ldx_0, ldx_s, ldi_0, ldi_s, ldr_0, ldr_s, fg_0_0, fg_0_1, fg_0_2, fg_0_3, fg_0_4, fg_0_5, fg_1_0, fg_1_1, fg_1_2, fg_1_3, fg_1_4, fg_1_5, fg_1_6, fg_1_7, fg_2_0, fg_2_1, fg_2_2, fg_2_3, fg_2_4, fg_2_5, fg_3_0, fg_3_1, fg_4_0, fg_4_1, fg_4_2, fg_4_3, fg_4_4, fg_4_5, fg_5_0, fg_5_1, fg_5_2, fg_5_3, fg_5_4, fg_5_5, fg_5_6, fg_6_0, fg_6_1, fg_6_2, fg_6_3, fg_7_0, fg_7_1, fg_7_2, fg_7_3, fg_7_4, fg_7_5, fg_8_0, fg_8_1, fg_8_2, fg_8_3, fg_8_4, fg_8_5, fg_8_6, fg_8_7, fg_8_8, fg_8_9, fg_8_10, fg_8_11, fg_8_12, fg_8_13, fk, rd, al_9, al_10, al_11, al_13, al_12_0, al_12_1, al_12_2, al_12_3, al_12_4, al_12_5, al_12_6, al_12_7, al_12_8, al_12_9, al_12_10, al_12_11, stepd_ok dX8_laysAll_0, sf_iconst, stepd_ok dX8_laysAll_1, sf_istore_n2, stepd_ok dX8_laysAll_2, sf_iload_n2, stepd_ok dX8_laysAll_3, sf_bipush, stepd_ok dX8_laysAll_5, jk_at (pc := 5) (off := 16) (t := 21) rfl, jo_at (pc := 5) (off := 16) (t := 21) rfl, sf_if_icmp_ge, stepd_ok dX8_laysAll_8, sf_aload_n0, stepd_ok dX8_laysAll_9, sf_getfield (P := pr_X8_laysAll) ftX8_25, stepd_ok dX8_laysAll_12, stepd_ok dX8_laysAll_13, stepd_ok dX8_laysAll_14, sf_iastore, stepd_ok dX8_laysAll_15, sf_iinc, stepd_ok dX8_laysAll_18, jk_at (pc := 18) (off := -16) (t := 2) rfl, sf_goto, stepd_ok dX8_laysAll_21, stepd_ok dX8_laysAll_22, stepd_ok dX8_laysAll_23, stepd_ok dX8_laysAll_24, stepd_ok dX8_laysAll_25, sf_getfield (P := pr_X8_laysAll) ftX8_7, stepd_ok dX8_laysAll_28, stepd_ok dX8_laysAll_29, sf_iaload, stepd_ok dX8_laysAll_30, jk_at (pc := 30) (off := 41) (t := 71) rfl, jo_at (pc := 30) (off := 41) (t := 71) rfl, stepd_ok dX8_laysAll_33, stepd_ok dX8_laysAll_34, stepd_ok dX8_laysAll_35, sf_inv (P := pr_X8_laysAll) ca_X8_laysAll_90 rfl, stepd_ok dX8_laysAll_38, sf_istore_n3, stepd_ok dX8_laysAll_39, stepd_ok dX8_laysAll_40, stepd_ok dX8_laysAll_41, sf_iload_n3, stepd_ok dX8_laysAll_42, sf_inv (P := pr_X8_laysAll) ca_X8_laysAll_93 rfl, stepd_ok dX8_laysAll_45, sf_putfield (P := pr_X8_laysAll) ftX8_113, stepd_ok dX8_laysAll_48, sf_iload_n1, stepd_ok dX8_laysAll_49, jk_at (pc := 49) (off := 11) (t := 60) rfl, jo_at (pc := 49) (off := 11) (t := 60) rfl, sf_ifCond_eq, stepd_ok dX8_laysAll_52, stepd_ok dX8_laysAll_53, stepd_ok dX8_laysAll_54, sf_inv (P := pr_X8_laysAll) ca_X8_laysAll_136 rfl, stepd_ok dX8_laysAll_57, jk_at (pc := 57) (off := 8) (t := 65) rfl, jo_at (pc := 57) (off := 8) (t := 65) rfl, sf_ifCond_ne, stepd_ok dX8_laysAll_60, stepd_ok dX8_laysAll_61, stepd_ok dX8_laysAll_62, sf_inv (P := pr_X8_laysAll) ca_X8_laysAll_139 rfl, stepd_ok dX8_laysAll_65, stepd_ok dX8_laysAll_68, jk_at (pc := 68) (off := -45) (t := 23) rfl, stepd_ok dX8_laysAll_71, stepd_ok dX8_laysAll_72, sf_inv (P := pr_X8_laysAll) ca_X8_laysAll_143 rfl, stepd_ok dX8_laysAll_75, stepd_ok dX8_laysAll_76, sf_inv (P := pr_X8_laysAll) ca_X8_laysAll_104 rfl, stepd_ok dX8_laysAll_79, sf_iret1 (P := pr_X8_laysAll) rfl rfl, sp_X8_ranked_e, sp_X8_sizeOf_e, sp_X8_keeps_e, sp_X8_spirals_e, sp_X8_takesOver2_e, sp_X8_placed_e, Nat.zero_lt_one, hV']
      rw [e]
      exact k
    refine run hG [75] 60 ?_
    simp only [wpn_s, wpn_0, br_T, br_F, st1, st2, true_and, and_true, ↓reduceIte, if_true, if_false, List.contains_nil, List.contains_cons, Bool.or_false, Bool.or_true, Bool.true_or, Bool.false_or, Bool.false_eq_true, bit_0, bit_1, bit_b, true_or, or_true, or_false, false_or, up_e, up_nc, up_nj, ne_eq, not_false_eq_true, not_true_eq_false, inR_n, inR_m1, bi_RT, br_bi, Nat.reduceAdd, Nat.reduceLT, Nat.reduceLeDiff, Nat.reduceEqDiff, Nat.reduceBEq, Nat.zero_le, Int.reduceAdd, Int.reduceNeg, Int.reduceLE, Int.reduceLT, Int.reduceToNat, Int.reduceNatCast, Int.reduceEq, Int.reduceSub, Int.reduceMul, false_implies, true_implies, implies_true, set_0, set_s, len_c, len_n, nc2_0, nc2_1i, nc2_1r, nc2_1j, nc2_s, rcv_e, take_c, take_z, drop_c, drop_z, rev_c, rev_n, app_c, app_n, tol_s, tol_n, Nat.le_refl, cnt_0, cnt_1, cnt_2, cnt_3, cnt_4, cnt_5, cnt_6, cnt_7, cnt_8, cnt_9, cnt_10, cnt_11, cnt_12, cnt_13, cnt_14, s1i_e, s2i_e, s1r_e, sir_e, siir_e, srir_e, c1_i, c1_r, s1v_e, s2v_e, ldv_0, ldv_s, ldx_0, ldx_s, ldi_0, ldi_s, ldr_0, ldr_s, fg_0_0, fg_0_1, fg_0_2, fg_0_3, fg_0_4, fg_0_5, fg_1_0, fg_1_1, fg_1_2, fg_1_3, fg_1_4, fg_1_5, fg_1_6, fg_1_7, fg_2_0, fg_2_1, fg_2_2, fg_2_3, fg_2_4, fg_2_5, fg_3_0, fg_3_1, fg_4_0, fg_4_1, fg_4_2, fg_4_3, fg_4_4, fg_4_5, fg_5_0, fg_5_1, fg_5_2, fg_5_3, fg_5_4, fg_5_5, fg_5_6, fg_6_0, fg_6_1, fg_6_2, fg_6_3, fg_7_0, fg_7_1, fg_7_2, fg_7_3, fg_7_4, fg_7_5, fg_8_0, fg_8_1, fg_8_2, fg_8_3, fg_8_4, fg_8_5, fg_8_6, fg_8_7, fg_8_8, fg_8_9, fg_8_10, fg_8_11, fg_8_12, fg_8_13, fk, rd, al_9, al_10, al_11, al_13, al_12_0, al_12_1, al_12_2, al_12_3, al_12_4, al_12_5, al_12_6, al_12_7, al_12_8, al_12_9, al_12_10, al_12_11, stepd_ok dX8_laysAll_0, sf_iconst, stepd_ok dX8_laysAll_1, sf_istore_n2, stepd_ok dX8_laysAll_2, sf_iload_n2, stepd_ok dX8_laysAll_3, sf_bipush, stepd_ok dX8_laysAll_5, jk_at (pc := 5) (off := 16) (t := 21) rfl, jo_at (pc := 5) (off := 16) (t := 21) rfl, sf_if_icmp_ge, stepd_ok dX8_laysAll_8, sf_aload_n0, stepd_ok dX8_laysAll_9, sf_getfield (P := pr_X8_laysAll) ftX8_25, stepd_ok dX8_laysAll_12, stepd_ok dX8_laysAll_13, stepd_ok dX8_laysAll_14, sf_iastore, stepd_ok dX8_laysAll_15, sf_iinc, stepd_ok dX8_laysAll_18, jk_at (pc := 18) (off := -16) (t := 2) rfl, sf_goto, stepd_ok dX8_laysAll_21, stepd_ok dX8_laysAll_22, stepd_ok dX8_laysAll_23, stepd_ok dX8_laysAll_24, stepd_ok dX8_laysAll_25, sf_getfield (P := pr_X8_laysAll) ftX8_7, stepd_ok dX8_laysAll_28, stepd_ok dX8_laysAll_29, sf_iaload, stepd_ok dX8_laysAll_30, jk_at (pc := 30) (off := 41) (t := 71) rfl, jo_at (pc := 30) (off := 41) (t := 71) rfl, stepd_ok dX8_laysAll_33, stepd_ok dX8_laysAll_34, stepd_ok dX8_laysAll_35, sf_inv (P := pr_X8_laysAll) ca_X8_laysAll_90 rfl, stepd_ok dX8_laysAll_38, sf_istore_n3, stepd_ok dX8_laysAll_39, stepd_ok dX8_laysAll_40, stepd_ok dX8_laysAll_41, sf_iload_n3, stepd_ok dX8_laysAll_42, sf_inv (P := pr_X8_laysAll) ca_X8_laysAll_93 rfl, stepd_ok dX8_laysAll_45, sf_putfield (P := pr_X8_laysAll) ftX8_113, stepd_ok dX8_laysAll_48, sf_iload_n1, stepd_ok dX8_laysAll_49, jk_at (pc := 49) (off := 11) (t := 60) rfl, jo_at (pc := 49) (off := 11) (t := 60) rfl, sf_ifCond_eq, stepd_ok dX8_laysAll_52, stepd_ok dX8_laysAll_53, stepd_ok dX8_laysAll_54, sf_inv (P := pr_X8_laysAll) ca_X8_laysAll_136 rfl, stepd_ok dX8_laysAll_57, jk_at (pc := 57) (off := 8) (t := 65) rfl, jo_at (pc := 57) (off := 8) (t := 65) rfl, sf_ifCond_ne, stepd_ok dX8_laysAll_60, stepd_ok dX8_laysAll_61, stepd_ok dX8_laysAll_62, sf_inv (P := pr_X8_laysAll) ca_X8_laysAll_139 rfl, stepd_ok dX8_laysAll_65, stepd_ok dX8_laysAll_68, jk_at (pc := 68) (off := -45) (t := 23) rfl, stepd_ok dX8_laysAll_71, stepd_ok dX8_laysAll_72, sf_inv (P := pr_X8_laysAll) ca_X8_laysAll_143 rfl, stepd_ok dX8_laysAll_75, stepd_ok dX8_laysAll_76, sf_inv (P := pr_X8_laysAll) ca_X8_laysAll_104 rfl, stepd_ok dX8_laysAll_79, sf_iret1 (P := pr_X8_laysAll) rfl rfl, sp_X8_ranked_e, sp_X8_sizeOf_e, sp_X8_keeps_e, sp_X8_spirals_e, sp_X8_takesOver2_e, sp_X8_placed_e, Nat.zero_lt_one, hVτ]
    exact ⟨hrow, fun σ' z h1 h2 => by
      have hp : PutM τ σ' (zs (nS (mS σ))) := by
        obtain ⟨a, b, c, d⟩ := h2
        refine ⟨a, ?_, fun w hw => ⟨(c w hw).1, fun k hk => ?_⟩, d⟩
        · rw [b]
          apply ct_congr
          intro w hw
          unfold MovZ
          rw [h1 w hw 0 (by omega), h1 w hw 1 (by omega), h1 w hw 2 (by omega), h1 w hw 3 (by omega), hz w hw 0 (by omega), hz w hw 1 (by omega), hz w hw 2 (by omega), hz w hw 3 (by omega)]
        · rw [(c w hw).2 k hk, h1 w hw k hk, hz w hw k hk]
      exact fin σ' hp⟩
  have ranks : ∀ (n r : Nat) (τ : Sto) (zs : Nat → Nat → Nat → Int), r + n = nS (mS σ) → LM σ τ kp r zs → ∀ v3, G 23 [vr 8 0, vi kp, vi r, v3] [] τ 0 := by
    intro n
    induction n with
    | zero =>
      intro r τ zs hr hL v3
      have e : r = nS (mS σ) := by omega
      have ri : inR (r : Int) := by unfold inR; omega
      have t5 : τ 12 3 5 = σ 12 3 5 := hL.2.1 12 3 5 (by omega) (by omega)
      have ng : ¬ (r : Int) < σ 12 3 5 := by omega
      have k := last τ zs (by rw [← e]; exact hL) (vi r) v3
      refine run hG [71] 60 ?_
      simp only [wpn_s, wpn_0, br_T, br_F, st1, st2, true_and, and_true, ↓reduceIte, if_true, if_false, List.contains_nil, List.contains_cons, Bool.or_false, Bool.or_true, Bool.true_or, Bool.false_or, Bool.false_eq_true, bit_0, bit_1, bit_b, true_or, or_true, or_false, false_or, up_e, up_nc, up_nj, ne_eq, not_false_eq_true, not_true_eq_false, inR_n, inR_m1, bi_RT, br_bi, Nat.reduceAdd, Nat.reduceLT, Nat.reduceLeDiff, Nat.reduceEqDiff, Nat.reduceBEq, Nat.zero_le, Int.reduceAdd, Int.reduceNeg, Int.reduceLE, Int.reduceLT, Int.reduceToNat, Int.reduceNatCast, Int.reduceEq, Int.reduceSub, Int.reduceMul, false_implies, true_implies, implies_true, set_0, set_s, len_c, len_n, nc2_0, nc2_1i, nc2_1r, nc2_1j, nc2_s, rcv_e, take_c, take_z, drop_c, drop_z, rev_c, rev_n, app_c, app_n, tol_s, tol_n, Nat.le_refl, cnt_0, cnt_1, cnt_2, cnt_3, cnt_4, cnt_5, cnt_6, cnt_7, cnt_8, cnt_9, cnt_10, cnt_11, cnt_12, cnt_13, cnt_14, s1i_e, s2i_e, s1r_e, sir_e, siir_e, srir_e, c1_i, c1_r, s1v_e, s2v_e, ldv_0, ldv_s, ldx_0, ldx_s, ldi_0, ldi_s, ldr_0, ldr_s, fg_0_0, fg_0_1, fg_0_2, fg_0_3, fg_0_4, fg_0_5, fg_1_0, fg_1_1, fg_1_2, fg_1_3, fg_1_4, fg_1_5, fg_1_6, fg_1_7, fg_2_0, fg_2_1, fg_2_2, fg_2_3, fg_2_4, fg_2_5, fg_3_0, fg_3_1, fg_4_0, fg_4_1, fg_4_2, fg_4_3, fg_4_4, fg_4_5, fg_5_0, fg_5_1, fg_5_2, fg_5_3, fg_5_4, fg_5_5, fg_5_6, fg_6_0, fg_6_1, fg_6_2, fg_6_3, fg_7_0, fg_7_1, fg_7_2, fg_7_3, fg_7_4, fg_7_5, fg_8_0, fg_8_1, fg_8_2, fg_8_3, fg_8_4, fg_8_5, fg_8_6, fg_8_7, fg_8_8, fg_8_9, fg_8_10, fg_8_11, fg_8_12, fg_8_13, fk, rd, al_9, al_10, al_11, al_13, al_12_0, al_12_1, al_12_2, al_12_3, al_12_4, al_12_5, al_12_6, al_12_7, al_12_8, al_12_9, al_12_10, al_12_11, stepd_ok dX8_laysAll_0, sf_iconst, stepd_ok dX8_laysAll_1, sf_istore_n2, stepd_ok dX8_laysAll_2, sf_iload_n2, stepd_ok dX8_laysAll_3, sf_bipush, stepd_ok dX8_laysAll_5, jk_at (pc := 5) (off := 16) (t := 21) rfl, jo_at (pc := 5) (off := 16) (t := 21) rfl, sf_if_icmp_ge, stepd_ok dX8_laysAll_8, sf_aload_n0, stepd_ok dX8_laysAll_9, sf_getfield (P := pr_X8_laysAll) ftX8_25, stepd_ok dX8_laysAll_12, stepd_ok dX8_laysAll_13, stepd_ok dX8_laysAll_14, sf_iastore, stepd_ok dX8_laysAll_15, sf_iinc, stepd_ok dX8_laysAll_18, jk_at (pc := 18) (off := -16) (t := 2) rfl, sf_goto, stepd_ok dX8_laysAll_21, stepd_ok dX8_laysAll_22, stepd_ok dX8_laysAll_23, stepd_ok dX8_laysAll_24, stepd_ok dX8_laysAll_25, sf_getfield (P := pr_X8_laysAll) ftX8_7, stepd_ok dX8_laysAll_28, stepd_ok dX8_laysAll_29, sf_iaload, stepd_ok dX8_laysAll_30, jk_at (pc := 30) (off := 41) (t := 71) rfl, jo_at (pc := 30) (off := 41) (t := 71) rfl, stepd_ok dX8_laysAll_33, stepd_ok dX8_laysAll_34, stepd_ok dX8_laysAll_35, sf_inv (P := pr_X8_laysAll) ca_X8_laysAll_90 rfl, stepd_ok dX8_laysAll_38, sf_istore_n3, stepd_ok dX8_laysAll_39, stepd_ok dX8_laysAll_40, stepd_ok dX8_laysAll_41, sf_iload_n3, stepd_ok dX8_laysAll_42, sf_inv (P := pr_X8_laysAll) ca_X8_laysAll_93 rfl, stepd_ok dX8_laysAll_45, sf_putfield (P := pr_X8_laysAll) ftX8_113, stepd_ok dX8_laysAll_48, sf_iload_n1, stepd_ok dX8_laysAll_49, jk_at (pc := 49) (off := 11) (t := 60) rfl, jo_at (pc := 49) (off := 11) (t := 60) rfl, sf_ifCond_eq, stepd_ok dX8_laysAll_52, stepd_ok dX8_laysAll_53, stepd_ok dX8_laysAll_54, sf_inv (P := pr_X8_laysAll) ca_X8_laysAll_136 rfl, stepd_ok dX8_laysAll_57, jk_at (pc := 57) (off := 8) (t := 65) rfl, jo_at (pc := 57) (off := 8) (t := 65) rfl, sf_ifCond_ne, stepd_ok dX8_laysAll_60, stepd_ok dX8_laysAll_61, stepd_ok dX8_laysAll_62, sf_inv (P := pr_X8_laysAll) ca_X8_laysAll_139 rfl, stepd_ok dX8_laysAll_65, stepd_ok dX8_laysAll_68, jk_at (pc := 68) (off := -45) (t := 23) rfl, stepd_ok dX8_laysAll_71, stepd_ok dX8_laysAll_72, sf_inv (P := pr_X8_laysAll) ca_X8_laysAll_143 rfl, stepd_ok dX8_laysAll_75, stepd_ok dX8_laysAll_76, sf_inv (P := pr_X8_laysAll) ca_X8_laysAll_104 rfl, stepd_ok dX8_laysAll_79, sf_iret1 (P := pr_X8_laysAll) rfl rfl, sp_X8_ranked_e, sp_X8_sizeOf_e, sp_X8_keeps_e, sp_X8_spirals_e, sp_X8_takesOver2_e, sp_X8_placed_e, Nat.zero_lt_one, rn, ri, t5, ng]
      exact k
    | succ n ih =>
      intro r τ zs hr hL v3
      have eS := frM_S hL.2.1
      have eV := frM_V hL.2.1
      have hVτ : VOK (mS τ) (mV τ) := by rw [eS, eV]; exact hV
      have ri : inR (r : Int) := by unfold inR; omega
      have t5 : τ 12 3 5 = σ 12 3 5 := hL.2.1 12 3 5 (by omega) (by omega)
      have lt : (r : Int) < σ 12 3 5 := by omega
      have r0 : (0 : Int) ≤ r := by omega
      have mid : ∀ w : Nat, w < nS (mS σ) → rkV (mS σ) (mV σ) w = r → G 48 [vr 8 0, vi kp, vi r, vi w] [] (up3 τ 8 0 10 (szV (mS σ) (mV σ) w)) 0 := by
        intro w hw hrk
        have w0 : (0 : Int) ≤ w := by omega
        have w1 : (w : Int) < σ 12 3 5 := by omega
        have sr := szV_r hV hw
        obtain ⟨s, hs⟩ : ∃ s, s = szV (mS σ) (mV σ) w := ⟨_, rfl⟩
        have hz0 : τ 12 8 w = 0 := hL.2.2.2 w hw (by omega)
        have lrb : RB (up3 τ 8 0 10 s) w := by
          intro o ho hne
          rw [mS_8, eS] at ho
          rw [up_nc (by omega), up_nc (by omega), up_nc (by omega), up_nc (by omega), up_nc (by omega)]
          exact lm_rb (w := w) hL o (by rw [eS]; exact ho) hne
        have hzz : ∀ o, o < nS (mS (up3 τ 8 0 10 s)) → ZRow (up3 τ 8 0 10 s) (zs r o) o := by
          intro o ho
          rw [mS_8, eS] at ho
          have := hL.2.2.1 o ho
          unfold ZRow at this ⊢
          simp only [up_nc (show (12 : Nat) ≠ 8 by omega)]
          exact this
        have hz1 : up3 τ 8 0 10 s 12 8 w = 0 := by rw [up_nc (by omega)]; exact hz0
        have eP : PosM (up3 τ 8 0 10 s) w = PosZ (mS σ) (zs r) := by rw [posM_Z hzz hz1, mS_8, eS]
        have e1 : up3 τ 8 0 10 s 8 0 10 = s := up_e
        have ss : 1 ≤ s ∧ s ≤ 8 := by rw [hs]; exact sr
        have eSt : StayM (up3 τ 8 0 10 s) w ↔ StayZ (mS σ) (mV σ) (zs r) w := by
          unfold StayM StayZ
          rw [eP, mV_8, eV, e1, hs]
        have nxt : ∀ (σ' : Sto) (f x y u : Int), FrR (up3 τ 8 0 10 s) σ' w → ChoZ (mS σ) (mV σ) (zs r) w kp f x y u → bitOK f → (f = 1 → TryB (PosZ (mS σ) (zs r)) (mV σ w 12) (mV σ w 0) s x y u ∧ RowIs σ' w x y u (mV σ w 0) s) → (f = 0 → σ' 12 8 w = 0) → G 65 [vr 8 0, vi kp, vi r, vi w] [] σ' 0 := by
          intro σ' f x y u g1 g2 g3 g4 g5
          rw [hs] at g1 g4
          obtain ⟨zs', hL'⟩ := lm_step hV hL hw hrk g1 g2 g3 g4 g5
          have k := ih (r + 1) σ' zs' (by omega) hL' (vi w)
          refine run hG [23] 60 ?_
          simp only [wpn_s, wpn_0, br_T, br_F, st1, st2, true_and, and_true, ↓reduceIte, if_true, if_false, List.contains_nil, List.contains_cons, Bool.or_false, Bool.or_true, Bool.true_or, Bool.false_or, Bool.false_eq_true, bit_0, bit_1, bit_b, true_or, or_true, or_false, false_or, up_e, up_nc, up_nj, ne_eq, not_false_eq_true, not_true_eq_false, inR_n, inR_m1, bi_RT, br_bi, Nat.reduceAdd, Nat.reduceLT, Nat.reduceLeDiff, Nat.reduceEqDiff, Nat.reduceBEq, Nat.zero_le, Int.reduceAdd, Int.reduceNeg, Int.reduceLE, Int.reduceLT, Int.reduceToNat, Int.reduceNatCast, Int.reduceEq, Int.reduceSub, Int.reduceMul, false_implies, true_implies, implies_true, set_0, set_s, len_c, len_n, nc2_0, nc2_1i, nc2_1r, nc2_1j, nc2_s, rcv_e, take_c, take_z, drop_c, drop_z, rev_c, rev_n, app_c, app_n, tol_s, tol_n, Nat.le_refl, cnt_0, cnt_1, cnt_2, cnt_3, cnt_4, cnt_5, cnt_6, cnt_7, cnt_8, cnt_9, cnt_10, cnt_11, cnt_12, cnt_13, cnt_14, s1i_e, s2i_e, s1r_e, sir_e, siir_e, srir_e, c1_i, c1_r, s1v_e, s2v_e, ldv_0, ldv_s, ldx_0, ldx_s, ldi_0, ldi_s, ldr_0, ldr_s, fg_0_0, fg_0_1, fg_0_2, fg_0_3, fg_0_4, fg_0_5, fg_1_0, fg_1_1, fg_1_2, fg_1_3, fg_1_4, fg_1_5, fg_1_6, fg_1_7, fg_2_0, fg_2_1, fg_2_2, fg_2_3, fg_2_4, fg_2_5, fg_3_0, fg_3_1, fg_4_0, fg_4_1, fg_4_2, fg_4_3, fg_4_4, fg_4_5, fg_5_0, fg_5_1, fg_5_2, fg_5_3, fg_5_4, fg_5_5, fg_5_6, fg_6_0, fg_6_1, fg_6_2, fg_6_3, fg_7_0, fg_7_1, fg_7_2, fg_7_3, fg_7_4, fg_7_5, fg_8_0, fg_8_1, fg_8_2, fg_8_3, fg_8_4, fg_8_5, fg_8_6, fg_8_7, fg_8_8, fg_8_9, fg_8_10, fg_8_11, fg_8_12, fg_8_13, fk, rd, al_9, al_10, al_11, al_13, al_12_0, al_12_1, al_12_2, al_12_3, al_12_4, al_12_5, al_12_6, al_12_7, al_12_8, al_12_9, al_12_10, al_12_11, stepd_ok dX8_laysAll_0, sf_iconst, stepd_ok dX8_laysAll_1, sf_istore_n2, stepd_ok dX8_laysAll_2, sf_iload_n2, stepd_ok dX8_laysAll_3, sf_bipush, stepd_ok dX8_laysAll_5, jk_at (pc := 5) (off := 16) (t := 21) rfl, jo_at (pc := 5) (off := 16) (t := 21) rfl, sf_if_icmp_ge, stepd_ok dX8_laysAll_8, sf_aload_n0, stepd_ok dX8_laysAll_9, sf_getfield (P := pr_X8_laysAll) ftX8_25, stepd_ok dX8_laysAll_12, stepd_ok dX8_laysAll_13, stepd_ok dX8_laysAll_14, sf_iastore, stepd_ok dX8_laysAll_15, sf_iinc, stepd_ok dX8_laysAll_18, jk_at (pc := 18) (off := -16) (t := 2) rfl, sf_goto, stepd_ok dX8_laysAll_21, stepd_ok dX8_laysAll_22, stepd_ok dX8_laysAll_23, stepd_ok dX8_laysAll_24, stepd_ok dX8_laysAll_25, sf_getfield (P := pr_X8_laysAll) ftX8_7, stepd_ok dX8_laysAll_28, stepd_ok dX8_laysAll_29, sf_iaload, stepd_ok dX8_laysAll_30, jk_at (pc := 30) (off := 41) (t := 71) rfl, jo_at (pc := 30) (off := 41) (t := 71) rfl, stepd_ok dX8_laysAll_33, stepd_ok dX8_laysAll_34, stepd_ok dX8_laysAll_35, sf_inv (P := pr_X8_laysAll) ca_X8_laysAll_90 rfl, stepd_ok dX8_laysAll_38, sf_istore_n3, stepd_ok dX8_laysAll_39, stepd_ok dX8_laysAll_40, stepd_ok dX8_laysAll_41, sf_iload_n3, stepd_ok dX8_laysAll_42, sf_inv (P := pr_X8_laysAll) ca_X8_laysAll_93 rfl, stepd_ok dX8_laysAll_45, sf_putfield (P := pr_X8_laysAll) ftX8_113, stepd_ok dX8_laysAll_48, sf_iload_n1, stepd_ok dX8_laysAll_49, jk_at (pc := 49) (off := 11) (t := 60) rfl, jo_at (pc := 49) (off := 11) (t := 60) rfl, sf_ifCond_eq, stepd_ok dX8_laysAll_52, stepd_ok dX8_laysAll_53, stepd_ok dX8_laysAll_54, sf_inv (P := pr_X8_laysAll) ca_X8_laysAll_136 rfl, stepd_ok dX8_laysAll_57, jk_at (pc := 57) (off := 8) (t := 65) rfl, jo_at (pc := 57) (off := 8) (t := 65) rfl, sf_ifCond_ne, stepd_ok dX8_laysAll_60, stepd_ok dX8_laysAll_61, stepd_ok dX8_laysAll_62, sf_inv (P := pr_X8_laysAll) ca_X8_laysAll_139 rfl, stepd_ok dX8_laysAll_65, stepd_ok dX8_laysAll_68, jk_at (pc := 68) (off := -45) (t := 23) rfl, stepd_ok dX8_laysAll_71, stepd_ok dX8_laysAll_72, sf_inv (P := pr_X8_laysAll) ca_X8_laysAll_143 rfl, stepd_ok dX8_laysAll_75, stepd_ok dX8_laysAll_76, sf_inv (P := pr_X8_laysAll) ca_X8_laysAll_104 rfl, stepd_ok dX8_laysAll_79, sf_iret1 (P := pr_X8_laysAll) rfl rfl, sp_X8_ranked_e, sp_X8_sizeOf_e, sp_X8_keeps_e, sp_X8_spirals_e, sp_X8_takesOver2_e, sp_X8_placed_e, Nat.zero_lt_one]
          exact k
        have spi : ∀ σ1, FrR (up3 τ 8 0 10 s) σ1 w → σ1 12 8 w = 0 → ¬ (kp = 1 ∧ StayZ (mS σ) (mV σ) (zs r) w) → G 60 [vr 8 0, vi kp, vi r, vi w] [] σ1 0 := by
          intro σ1 hF1 hz2 hns
          have f5 : σ1 12 3 5 = σ 12 3 5 := by rw [hF1 12 3 5 (by omega), up_nc (by omega)]; exact t5
          have f10 : σ1 8 0 10 = s := by rw [hF1 8 0 10 (by omega)]; exact e1
          have eS1 : mS σ1 = mS σ := by rw [frR_S hF1, mS_8, eS]
          have eV1 : mV σ1 = mV σ := by rw [frR_V hF1, mV_8, eV]
          have eP1 : PosM σ1 w = PosZ (mS σ) (zs r) := by rw [posM_fr hF1, eP]
          have rb1 := rb_fr hF1 lrb
          refine run hG [65] 60 ?_
          simp only [wpn_s, wpn_0, br_T, br_F, st1, st2, true_and, and_true, ↓reduceIte, if_true, if_false, List.contains_nil, List.contains_cons, Bool.or_false, Bool.or_true, Bool.true_or, Bool.false_or, Bool.false_eq_true, bit_0, bit_1, bit_b, true_or, or_true, or_false, false_or, up_e, up_nc, up_nj, ne_eq, not_false_eq_true, not_true_eq_false, inR_n, inR_m1, bi_RT, br_bi, Nat.reduceAdd, Nat.reduceLT, Nat.reduceLeDiff, Nat.reduceEqDiff, Nat.reduceBEq, Nat.zero_le, Int.reduceAdd, Int.reduceNeg, Int.reduceLE, Int.reduceLT, Int.reduceToNat, Int.reduceNatCast, Int.reduceEq, Int.reduceSub, Int.reduceMul, false_implies, true_implies, implies_true, set_0, set_s, len_c, len_n, nc2_0, nc2_1i, nc2_1r, nc2_1j, nc2_s, rcv_e, take_c, take_z, drop_c, drop_z, rev_c, rev_n, app_c, app_n, tol_s, tol_n, Nat.le_refl, cnt_0, cnt_1, cnt_2, cnt_3, cnt_4, cnt_5, cnt_6, cnt_7, cnt_8, cnt_9, cnt_10, cnt_11, cnt_12, cnt_13, cnt_14, s1i_e, s2i_e, s1r_e, sir_e, siir_e, srir_e, c1_i, c1_r, s1v_e, s2v_e, ldv_0, ldv_s, ldx_0, ldx_s, ldi_0, ldi_s, ldr_0, ldr_s, fg_0_0, fg_0_1, fg_0_2, fg_0_3, fg_0_4, fg_0_5, fg_1_0, fg_1_1, fg_1_2, fg_1_3, fg_1_4, fg_1_5, fg_1_6, fg_1_7, fg_2_0, fg_2_1, fg_2_2, fg_2_3, fg_2_4, fg_2_5, fg_3_0, fg_3_1, fg_4_0, fg_4_1, fg_4_2, fg_4_3, fg_4_4, fg_4_5, fg_5_0, fg_5_1, fg_5_2, fg_5_3, fg_5_4, fg_5_5, fg_5_6, fg_6_0, fg_6_1, fg_6_2, fg_6_3, fg_7_0, fg_7_1, fg_7_2, fg_7_3, fg_7_4, fg_7_5, fg_8_0, fg_8_1, fg_8_2, fg_8_3, fg_8_4, fg_8_5, fg_8_6, fg_8_7, fg_8_8, fg_8_9, fg_8_10, fg_8_11, fg_8_12, fg_8_13, fk, rd, al_9, al_10, al_11, al_13, al_12_0, al_12_1, al_12_2, al_12_3, al_12_4, al_12_5, al_12_6, al_12_7, al_12_8, al_12_9, al_12_10, al_12_11, stepd_ok dX8_laysAll_0, sf_iconst, stepd_ok dX8_laysAll_1, sf_istore_n2, stepd_ok dX8_laysAll_2, sf_iload_n2, stepd_ok dX8_laysAll_3, sf_bipush, stepd_ok dX8_laysAll_5, jk_at (pc := 5) (off := 16) (t := 21) rfl, jo_at (pc := 5) (off := 16) (t := 21) rfl, sf_if_icmp_ge, stepd_ok dX8_laysAll_8, sf_aload_n0, stepd_ok dX8_laysAll_9, sf_getfield (P := pr_X8_laysAll) ftX8_25, stepd_ok dX8_laysAll_12, stepd_ok dX8_laysAll_13, stepd_ok dX8_laysAll_14, sf_iastore, stepd_ok dX8_laysAll_15, sf_iinc, stepd_ok dX8_laysAll_18, jk_at (pc := 18) (off := -16) (t := 2) rfl, sf_goto, stepd_ok dX8_laysAll_21, stepd_ok dX8_laysAll_22, stepd_ok dX8_laysAll_23, stepd_ok dX8_laysAll_24, stepd_ok dX8_laysAll_25, sf_getfield (P := pr_X8_laysAll) ftX8_7, stepd_ok dX8_laysAll_28, stepd_ok dX8_laysAll_29, sf_iaload, stepd_ok dX8_laysAll_30, jk_at (pc := 30) (off := 41) (t := 71) rfl, jo_at (pc := 30) (off := 41) (t := 71) rfl, stepd_ok dX8_laysAll_33, stepd_ok dX8_laysAll_34, stepd_ok dX8_laysAll_35, sf_inv (P := pr_X8_laysAll) ca_X8_laysAll_90 rfl, stepd_ok dX8_laysAll_38, sf_istore_n3, stepd_ok dX8_laysAll_39, stepd_ok dX8_laysAll_40, stepd_ok dX8_laysAll_41, sf_iload_n3, stepd_ok dX8_laysAll_42, sf_inv (P := pr_X8_laysAll) ca_X8_laysAll_93 rfl, stepd_ok dX8_laysAll_45, sf_putfield (P := pr_X8_laysAll) ftX8_113, stepd_ok dX8_laysAll_48, sf_iload_n1, stepd_ok dX8_laysAll_49, jk_at (pc := 49) (off := 11) (t := 60) rfl, jo_at (pc := 49) (off := 11) (t := 60) rfl, sf_ifCond_eq, stepd_ok dX8_laysAll_52, stepd_ok dX8_laysAll_53, stepd_ok dX8_laysAll_54, sf_inv (P := pr_X8_laysAll) ca_X8_laysAll_136 rfl, stepd_ok dX8_laysAll_57, jk_at (pc := 57) (off := 8) (t := 65) rfl, jo_at (pc := 57) (off := 8) (t := 65) rfl, sf_ifCond_ne, stepd_ok dX8_laysAll_60, stepd_ok dX8_laysAll_61, stepd_ok dX8_laysAll_62, sf_inv (P := pr_X8_laysAll) ca_X8_laysAll_139 rfl, stepd_ok dX8_laysAll_65, stepd_ok dX8_laysAll_68, jk_at (pc := 68) (off := -45) (t := 23) rfl, stepd_ok dX8_laysAll_71, stepd_ok dX8_laysAll_72, sf_inv (P := pr_X8_laysAll) ca_X8_laysAll_143 rfl, stepd_ok dX8_laysAll_75, stepd_ok dX8_laysAll_76, sf_inv (P := pr_X8_laysAll) ca_X8_laysAll_104 rfl, stepd_ok dX8_laysAll_79, sf_iret1 (P := pr_X8_laysAll) rfl rfl, sp_X8_ranked_e, sp_X8_sizeOf_e, sp_X8_keeps_e, sp_X8_spirals_e, sp_X8_takesOver2_e, sp_X8_placed_e, Nat.zero_lt_one, w0, w1, f5, f10, eS1, eV1, eP1, rb1, hz2, ss, hV, Int.toNat_natCast]
          intro σ' f x0 y0 x y u h1 h2 h3 h4 h5 h6
          have hst := start_Z hzz hz1 (start_fr hF1 h1)
          rw [mS_8, mV_8, eS, eV] at hst
          rw [hs] at h2
          refine nxt σ' f x y u (frR_t hF1 h4) (Or.inr ⟨hns, x0, y0, hst, h2⟩) h3 (fun hf => ⟨?_, h5 hf⟩) h6
          rw [hs]
          rcases h2 with ⟨_, t, _, _, _, _, hu, _⟩ | ⟨d, _⟩
          · exact hu
          · omega
        rw [← hs]
        rcases hkp with e | e <;> subst e
        · have k := spi (up3 τ 8 0 10 s) (fun _ _ _ _ => rfl) hz1 (fun z => absurd z.1 (by omega))
          refine run hG [60, 65] 60 ?_
          simp only [wpn_s, wpn_0, br_T, br_F, st1, st2, true_and, and_true, ↓reduceIte, if_true, if_false, List.contains_nil, List.contains_cons, Bool.or_false, Bool.or_true, Bool.true_or, Bool.false_or, Bool.false_eq_true, bit_0, bit_1, bit_b, true_or, or_true, or_false, false_or, up_e, up_nc, up_nj, ne_eq, not_false_eq_true, not_true_eq_false, inR_n, inR_m1, bi_RT, br_bi, Nat.reduceAdd, Nat.reduceLT, Nat.reduceLeDiff, Nat.reduceEqDiff, Nat.reduceBEq, Nat.zero_le, Int.reduceAdd, Int.reduceNeg, Int.reduceLE, Int.reduceLT, Int.reduceToNat, Int.reduceNatCast, Int.reduceEq, Int.reduceSub, Int.reduceMul, false_implies, true_implies, implies_true, set_0, set_s, len_c, len_n, nc2_0, nc2_1i, nc2_1r, nc2_1j, nc2_s, rcv_e, take_c, take_z, drop_c, drop_z, rev_c, rev_n, app_c, app_n, tol_s, tol_n, Nat.le_refl, cnt_0, cnt_1, cnt_2, cnt_3, cnt_4, cnt_5, cnt_6, cnt_7, cnt_8, cnt_9, cnt_10, cnt_11, cnt_12, cnt_13, cnt_14, s1i_e, s2i_e, s1r_e, sir_e, siir_e, srir_e, c1_i, c1_r, s1v_e, s2v_e, ldv_0, ldv_s, ldx_0, ldx_s, ldi_0, ldi_s, ldr_0, ldr_s, fg_0_0, fg_0_1, fg_0_2, fg_0_3, fg_0_4, fg_0_5, fg_1_0, fg_1_1, fg_1_2, fg_1_3, fg_1_4, fg_1_5, fg_1_6, fg_1_7, fg_2_0, fg_2_1, fg_2_2, fg_2_3, fg_2_4, fg_2_5, fg_3_0, fg_3_1, fg_4_0, fg_4_1, fg_4_2, fg_4_3, fg_4_4, fg_4_5, fg_5_0, fg_5_1, fg_5_2, fg_5_3, fg_5_4, fg_5_5, fg_5_6, fg_6_0, fg_6_1, fg_6_2, fg_6_3, fg_7_0, fg_7_1, fg_7_2, fg_7_3, fg_7_4, fg_7_5, fg_8_0, fg_8_1, fg_8_2, fg_8_3, fg_8_4, fg_8_5, fg_8_6, fg_8_7, fg_8_8, fg_8_9, fg_8_10, fg_8_11, fg_8_12, fg_8_13, fk, rd, al_9, al_10, al_11, al_13, al_12_0, al_12_1, al_12_2, al_12_3, al_12_4, al_12_5, al_12_6, al_12_7, al_12_8, al_12_9, al_12_10, al_12_11, stepd_ok dX8_laysAll_0, sf_iconst, stepd_ok dX8_laysAll_1, sf_istore_n2, stepd_ok dX8_laysAll_2, sf_iload_n2, stepd_ok dX8_laysAll_3, sf_bipush, stepd_ok dX8_laysAll_5, jk_at (pc := 5) (off := 16) (t := 21) rfl, jo_at (pc := 5) (off := 16) (t := 21) rfl, sf_if_icmp_ge, stepd_ok dX8_laysAll_8, sf_aload_n0, stepd_ok dX8_laysAll_9, sf_getfield (P := pr_X8_laysAll) ftX8_25, stepd_ok dX8_laysAll_12, stepd_ok dX8_laysAll_13, stepd_ok dX8_laysAll_14, sf_iastore, stepd_ok dX8_laysAll_15, sf_iinc, stepd_ok dX8_laysAll_18, jk_at (pc := 18) (off := -16) (t := 2) rfl, sf_goto, stepd_ok dX8_laysAll_21, stepd_ok dX8_laysAll_22, stepd_ok dX8_laysAll_23, stepd_ok dX8_laysAll_24, stepd_ok dX8_laysAll_25, sf_getfield (P := pr_X8_laysAll) ftX8_7, stepd_ok dX8_laysAll_28, stepd_ok dX8_laysAll_29, sf_iaload, stepd_ok dX8_laysAll_30, jk_at (pc := 30) (off := 41) (t := 71) rfl, jo_at (pc := 30) (off := 41) (t := 71) rfl, stepd_ok dX8_laysAll_33, stepd_ok dX8_laysAll_34, stepd_ok dX8_laysAll_35, sf_inv (P := pr_X8_laysAll) ca_X8_laysAll_90 rfl, stepd_ok dX8_laysAll_38, sf_istore_n3, stepd_ok dX8_laysAll_39, stepd_ok dX8_laysAll_40, stepd_ok dX8_laysAll_41, sf_iload_n3, stepd_ok dX8_laysAll_42, sf_inv (P := pr_X8_laysAll) ca_X8_laysAll_93 rfl, stepd_ok dX8_laysAll_45, sf_putfield (P := pr_X8_laysAll) ftX8_113, stepd_ok dX8_laysAll_48, sf_iload_n1, stepd_ok dX8_laysAll_49, jk_at (pc := 49) (off := 11) (t := 60) rfl, jo_at (pc := 49) (off := 11) (t := 60) rfl, sf_ifCond_eq, stepd_ok dX8_laysAll_52, stepd_ok dX8_laysAll_53, stepd_ok dX8_laysAll_54, sf_inv (P := pr_X8_laysAll) ca_X8_laysAll_136 rfl, stepd_ok dX8_laysAll_57, jk_at (pc := 57) (off := 8) (t := 65) rfl, jo_at (pc := 57) (off := 8) (t := 65) rfl, sf_ifCond_ne, stepd_ok dX8_laysAll_60, stepd_ok dX8_laysAll_61, stepd_ok dX8_laysAll_62, sf_inv (P := pr_X8_laysAll) ca_X8_laysAll_139 rfl, stepd_ok dX8_laysAll_65, stepd_ok dX8_laysAll_68, jk_at (pc := 68) (off := -45) (t := 23) rfl, stepd_ok dX8_laysAll_71, stepd_ok dX8_laysAll_72, sf_inv (P := pr_X8_laysAll) ca_X8_laysAll_143 rfl, stepd_ok dX8_laysAll_75, stepd_ok dX8_laysAll_76, sf_inv (P := pr_X8_laysAll) ca_X8_laysAll_104 rfl, stepd_ok dX8_laysAll_79, sf_iret1 (P := pr_X8_laysAll) rfl rfl, sp_X8_ranked_e, sp_X8_sizeOf_e, sp_X8_keeps_e, sp_X8_spirals_e, sp_X8_takesOver2_e, sp_X8_placed_e, Nat.zero_lt_one]
          exact k
        · have eSt' := eSt
          refine run hG [60, 65] 60 ?_
          simp only [wpn_s, wpn_0, br_T, br_F, st1, st2, true_and, and_true, ↓reduceIte, if_true, if_false, List.contains_nil, List.contains_cons, Bool.or_false, Bool.or_true, Bool.true_or, Bool.false_or, Bool.false_eq_true, bit_0, bit_1, bit_b, true_or, or_true, or_false, false_or, up_e, up_nc, up_nj, ne_eq, not_false_eq_true, not_true_eq_false, inR_n, inR_m1, bi_RT, br_bi, Nat.reduceAdd, Nat.reduceLT, Nat.reduceLeDiff, Nat.reduceEqDiff, Nat.reduceBEq, Nat.zero_le, Int.reduceAdd, Int.reduceNeg, Int.reduceLE, Int.reduceLT, Int.reduceToNat, Int.reduceNatCast, Int.reduceEq, Int.reduceSub, Int.reduceMul, false_implies, true_implies, implies_true, set_0, set_s, len_c, len_n, nc2_0, nc2_1i, nc2_1r, nc2_1j, nc2_s, rcv_e, take_c, take_z, drop_c, drop_z, rev_c, rev_n, app_c, app_n, tol_s, tol_n, Nat.le_refl, cnt_0, cnt_1, cnt_2, cnt_3, cnt_4, cnt_5, cnt_6, cnt_7, cnt_8, cnt_9, cnt_10, cnt_11, cnt_12, cnt_13, cnt_14, s1i_e, s2i_e, s1r_e, sir_e, siir_e, srir_e, c1_i, c1_r, s1v_e, s2v_e, ldv_0, ldv_s, ldx_0, ldx_s, ldi_0, ldi_s, ldr_0, ldr_s, fg_0_0, fg_0_1, fg_0_2, fg_0_3, fg_0_4, fg_0_5, fg_1_0, fg_1_1, fg_1_2, fg_1_3, fg_1_4, fg_1_5, fg_1_6, fg_1_7, fg_2_0, fg_2_1, fg_2_2, fg_2_3, fg_2_4, fg_2_5, fg_3_0, fg_3_1, fg_4_0, fg_4_1, fg_4_2, fg_4_3, fg_4_4, fg_4_5, fg_5_0, fg_5_1, fg_5_2, fg_5_3, fg_5_4, fg_5_5, fg_5_6, fg_6_0, fg_6_1, fg_6_2, fg_6_3, fg_7_0, fg_7_1, fg_7_2, fg_7_3, fg_7_4, fg_7_5, fg_8_0, fg_8_1, fg_8_2, fg_8_3, fg_8_4, fg_8_5, fg_8_6, fg_8_7, fg_8_8, fg_8_9, fg_8_10, fg_8_11, fg_8_12, fg_8_13, fk, rd, al_9, al_10, al_11, al_13, al_12_0, al_12_1, al_12_2, al_12_3, al_12_4, al_12_5, al_12_6, al_12_7, al_12_8, al_12_9, al_12_10, al_12_11, stepd_ok dX8_laysAll_0, sf_iconst, stepd_ok dX8_laysAll_1, sf_istore_n2, stepd_ok dX8_laysAll_2, sf_iload_n2, stepd_ok dX8_laysAll_3, sf_bipush, stepd_ok dX8_laysAll_5, jk_at (pc := 5) (off := 16) (t := 21) rfl, jo_at (pc := 5) (off := 16) (t := 21) rfl, sf_if_icmp_ge, stepd_ok dX8_laysAll_8, sf_aload_n0, stepd_ok dX8_laysAll_9, sf_getfield (P := pr_X8_laysAll) ftX8_25, stepd_ok dX8_laysAll_12, stepd_ok dX8_laysAll_13, stepd_ok dX8_laysAll_14, sf_iastore, stepd_ok dX8_laysAll_15, sf_iinc, stepd_ok dX8_laysAll_18, jk_at (pc := 18) (off := -16) (t := 2) rfl, sf_goto, stepd_ok dX8_laysAll_21, stepd_ok dX8_laysAll_22, stepd_ok dX8_laysAll_23, stepd_ok dX8_laysAll_24, stepd_ok dX8_laysAll_25, sf_getfield (P := pr_X8_laysAll) ftX8_7, stepd_ok dX8_laysAll_28, stepd_ok dX8_laysAll_29, sf_iaload, stepd_ok dX8_laysAll_30, jk_at (pc := 30) (off := 41) (t := 71) rfl, jo_at (pc := 30) (off := 41) (t := 71) rfl, stepd_ok dX8_laysAll_33, stepd_ok dX8_laysAll_34, stepd_ok dX8_laysAll_35, sf_inv (P := pr_X8_laysAll) ca_X8_laysAll_90 rfl, stepd_ok dX8_laysAll_38, sf_istore_n3, stepd_ok dX8_laysAll_39, stepd_ok dX8_laysAll_40, stepd_ok dX8_laysAll_41, sf_iload_n3, stepd_ok dX8_laysAll_42, sf_inv (P := pr_X8_laysAll) ca_X8_laysAll_93 rfl, stepd_ok dX8_laysAll_45, sf_putfield (P := pr_X8_laysAll) ftX8_113, stepd_ok dX8_laysAll_48, sf_iload_n1, stepd_ok dX8_laysAll_49, jk_at (pc := 49) (off := 11) (t := 60) rfl, jo_at (pc := 49) (off := 11) (t := 60) rfl, sf_ifCond_eq, stepd_ok dX8_laysAll_52, stepd_ok dX8_laysAll_53, stepd_ok dX8_laysAll_54, sf_inv (P := pr_X8_laysAll) ca_X8_laysAll_136 rfl, stepd_ok dX8_laysAll_57, jk_at (pc := 57) (off := 8) (t := 65) rfl, jo_at (pc := 57) (off := 8) (t := 65) rfl, sf_ifCond_ne, stepd_ok dX8_laysAll_60, stepd_ok dX8_laysAll_61, stepd_ok dX8_laysAll_62, sf_inv (P := pr_X8_laysAll) ca_X8_laysAll_139 rfl, stepd_ok dX8_laysAll_65, stepd_ok dX8_laysAll_68, jk_at (pc := 68) (off := -45) (t := 23) rfl, stepd_ok dX8_laysAll_71, stepd_ok dX8_laysAll_72, sf_inv (P := pr_X8_laysAll) ca_X8_laysAll_143 rfl, stepd_ok dX8_laysAll_75, stepd_ok dX8_laysAll_76, sf_inv (P := pr_X8_laysAll) ca_X8_laysAll_104 rfl, stepd_ok dX8_laysAll_79, sf_iret1 (P := pr_X8_laysAll) rfl rfl, sp_X8_ranked_e, sp_X8_sizeOf_e, sp_X8_keeps_e, sp_X8_spirals_e, sp_X8_takesOver2_e, sp_X8_placed_e, Nat.zero_lt_one, w0, w1, t5, e1, mS_8, mV_8, eS, eV, hV, lrb, hz0, ss, Int.toNat_natCast]
          intro σ1 hF1 h1 h2
          refine ⟨fun hst => ?_, fun hst => ?_⟩
          · have hZ := eSt.mp hst
            have hy := hZ.2
            rw [← hs] at hy
            exact nxt σ1 1 _ _ _ hF1 (Or.inl ⟨rfl, hZ, rfl, rfl, rfl, rfl⟩) (Or.inr rfl) (fun _ => ⟨hy, h1 hst⟩) (fun h => absurd h (by omega))
          · exact spi σ1 hF1 (h2 hst) (fun z => hst (eSt.mpr z.2))
      refine run hG [48] 60 ?_
      simp only [wpn_s, wpn_0, br_T, br_F, st1, st2, true_and, and_true, ↓reduceIte, if_true, if_false, List.contains_nil, List.contains_cons, Bool.or_false, Bool.or_true, Bool.true_or, Bool.false_or, Bool.false_eq_true, bit_0, bit_1, bit_b, true_or, or_true, or_false, false_or, up_e, up_nc, up_nj, ne_eq, not_false_eq_true, not_true_eq_false, inR_n, inR_m1, bi_RT, br_bi, Nat.reduceAdd, Nat.reduceLT, Nat.reduceLeDiff, Nat.reduceEqDiff, Nat.reduceBEq, Nat.zero_le, Int.reduceAdd, Int.reduceNeg, Int.reduceLE, Int.reduceLT, Int.reduceToNat, Int.reduceNatCast, Int.reduceEq, Int.reduceSub, Int.reduceMul, false_implies, true_implies, implies_true, set_0, set_s, len_c, len_n, nc2_0, nc2_1i, nc2_1r, nc2_1j, nc2_s, rcv_e, take_c, take_z, drop_c, drop_z, rev_c, rev_n, app_c, app_n, tol_s, tol_n, Nat.le_refl, cnt_0, cnt_1, cnt_2, cnt_3, cnt_4, cnt_5, cnt_6, cnt_7, cnt_8, cnt_9, cnt_10, cnt_11, cnt_12, cnt_13, cnt_14, s1i_e, s2i_e, s1r_e, sir_e, siir_e, srir_e, c1_i, c1_r, s1v_e, s2v_e, ldv_0, ldv_s, ldx_0, ldx_s, ldi_0, ldi_s, ldr_0, ldr_s, fg_0_0, fg_0_1, fg_0_2, fg_0_3, fg_0_4, fg_0_5, fg_1_0, fg_1_1, fg_1_2, fg_1_3, fg_1_4, fg_1_5, fg_1_6, fg_1_7, fg_2_0, fg_2_1, fg_2_2, fg_2_3, fg_2_4, fg_2_5, fg_3_0, fg_3_1, fg_4_0, fg_4_1, fg_4_2, fg_4_3, fg_4_4, fg_4_5, fg_5_0, fg_5_1, fg_5_2, fg_5_3, fg_5_4, fg_5_5, fg_5_6, fg_6_0, fg_6_1, fg_6_2, fg_6_3, fg_7_0, fg_7_1, fg_7_2, fg_7_3, fg_7_4, fg_7_5, fg_8_0, fg_8_1, fg_8_2, fg_8_3, fg_8_4, fg_8_5, fg_8_6, fg_8_7, fg_8_8, fg_8_9, fg_8_10, fg_8_11, fg_8_12, fg_8_13, fk, rd, al_9, al_10, al_11, al_13, al_12_0, al_12_1, al_12_2, al_12_3, al_12_4, al_12_5, al_12_6, al_12_7, al_12_8, al_12_9, al_12_10, al_12_11, stepd_ok dX8_laysAll_0, sf_iconst, stepd_ok dX8_laysAll_1, sf_istore_n2, stepd_ok dX8_laysAll_2, sf_iload_n2, stepd_ok dX8_laysAll_3, sf_bipush, stepd_ok dX8_laysAll_5, jk_at (pc := 5) (off := 16) (t := 21) rfl, jo_at (pc := 5) (off := 16) (t := 21) rfl, sf_if_icmp_ge, stepd_ok dX8_laysAll_8, sf_aload_n0, stepd_ok dX8_laysAll_9, sf_getfield (P := pr_X8_laysAll) ftX8_25, stepd_ok dX8_laysAll_12, stepd_ok dX8_laysAll_13, stepd_ok dX8_laysAll_14, sf_iastore, stepd_ok dX8_laysAll_15, sf_iinc, stepd_ok dX8_laysAll_18, jk_at (pc := 18) (off := -16) (t := 2) rfl, sf_goto, stepd_ok dX8_laysAll_21, stepd_ok dX8_laysAll_22, stepd_ok dX8_laysAll_23, stepd_ok dX8_laysAll_24, stepd_ok dX8_laysAll_25, sf_getfield (P := pr_X8_laysAll) ftX8_7, stepd_ok dX8_laysAll_28, stepd_ok dX8_laysAll_29, sf_iaload, stepd_ok dX8_laysAll_30, jk_at (pc := 30) (off := 41) (t := 71) rfl, jo_at (pc := 30) (off := 41) (t := 71) rfl, stepd_ok dX8_laysAll_33, stepd_ok dX8_laysAll_34, stepd_ok dX8_laysAll_35, sf_inv (P := pr_X8_laysAll) ca_X8_laysAll_90 rfl, stepd_ok dX8_laysAll_38, sf_istore_n3, stepd_ok dX8_laysAll_39, stepd_ok dX8_laysAll_40, stepd_ok dX8_laysAll_41, sf_iload_n3, stepd_ok dX8_laysAll_42, sf_inv (P := pr_X8_laysAll) ca_X8_laysAll_93 rfl, stepd_ok dX8_laysAll_45, sf_putfield (P := pr_X8_laysAll) ftX8_113, stepd_ok dX8_laysAll_48, sf_iload_n1, stepd_ok dX8_laysAll_49, jk_at (pc := 49) (off := 11) (t := 60) rfl, jo_at (pc := 49) (off := 11) (t := 60) rfl, sf_ifCond_eq, stepd_ok dX8_laysAll_52, stepd_ok dX8_laysAll_53, stepd_ok dX8_laysAll_54, sf_inv (P := pr_X8_laysAll) ca_X8_laysAll_136 rfl, stepd_ok dX8_laysAll_57, jk_at (pc := 57) (off := 8) (t := 65) rfl, jo_at (pc := 57) (off := 8) (t := 65) rfl, sf_ifCond_ne, stepd_ok dX8_laysAll_60, stepd_ok dX8_laysAll_61, stepd_ok dX8_laysAll_62, sf_inv (P := pr_X8_laysAll) ca_X8_laysAll_139 rfl, stepd_ok dX8_laysAll_65, stepd_ok dX8_laysAll_68, jk_at (pc := 68) (off := -45) (t := 23) rfl, stepd_ok dX8_laysAll_71, stepd_ok dX8_laysAll_72, sf_inv (P := pr_X8_laysAll) ca_X8_laysAll_143 rfl, stepd_ok dX8_laysAll_75, stepd_ok dX8_laysAll_76, sf_inv (P := pr_X8_laysAll) ca_X8_laysAll_104 rfl, stepd_ok dX8_laysAll_79, sf_iret1 (P := pr_X8_laysAll) rfl rfl, sp_X8_ranked_e, sp_X8_sizeOf_e, sp_X8_keeps_e, sp_X8_spirals_e, sp_X8_takesOver2_e, sp_X8_placed_e, Nat.zero_lt_one, rn, ri, t5, lt, r0, eS, eV, hV]
      intro w hw hrk
      have w0 : (0 : Int) ≤ w := by omega
      have w1 : (w : Int) < σ 12 3 5 := by omega
      exact ⟨w0, w1, mid w hw hrk⟩
  have zero : ∀ (n i : Nat) (τ : Sto), i + n = 24 → (∀ k, k < i → τ 12 8 k = 0) → (∀ c i k : Nat, (c ≠ 12 ∨ i ≠ 8) → τ c i k = σ c i k) → ∀ v3, G 2 [vr 8 0, vi kp, vi i, v3] [] τ 0 := by
    intro n
    induction n with
    | zero =>
      intro i τ hi h1 h2 v3
      have e : i = 24 := by omega
      have ri : inR (i : Int) := by unfold inR; omega
      have ng : ¬ (i : Int) < 24 := by omega
      have k := ranks (nS (mS σ)) 0 τ (fun _ _ _ => 0) (by omega) ⟨⟨fun _ _ => rfl, fun r' h => absurd h (by omega)⟩, fun c i k a _ => h2 c i k (by omega), fun o ho => Or.inl ⟨h1 o (by omega), fun _ => rfl⟩, fun o ho _ => h1 o (by omega)⟩ v3
      refine run hG [23] 60 ?_
      simp only [wpn_s, wpn_0, br_T, br_F, st1, st2, true_and, and_true, ↓reduceIte, if_true, if_false, List.contains_nil, List.contains_cons, Bool.or_false, Bool.or_true, Bool.true_or, Bool.false_or, Bool.false_eq_true, bit_0, bit_1, bit_b, true_or, or_true, or_false, false_or, up_e, up_nc, up_nj, ne_eq, not_false_eq_true, not_true_eq_false, inR_n, inR_m1, bi_RT, br_bi, Nat.reduceAdd, Nat.reduceLT, Nat.reduceLeDiff, Nat.reduceEqDiff, Nat.reduceBEq, Nat.zero_le, Int.reduceAdd, Int.reduceNeg, Int.reduceLE, Int.reduceLT, Int.reduceToNat, Int.reduceNatCast, Int.reduceEq, Int.reduceSub, Int.reduceMul, false_implies, true_implies, implies_true, set_0, set_s, len_c, len_n, nc2_0, nc2_1i, nc2_1r, nc2_1j, nc2_s, rcv_e, take_c, take_z, drop_c, drop_z, rev_c, rev_n, app_c, app_n, tol_s, tol_n, Nat.le_refl, cnt_0, cnt_1, cnt_2, cnt_3, cnt_4, cnt_5, cnt_6, cnt_7, cnt_8, cnt_9, cnt_10, cnt_11, cnt_12, cnt_13, cnt_14, s1i_e, s2i_e, s1r_e, sir_e, siir_e, srir_e, c1_i, c1_r, s1v_e, s2v_e, ldv_0, ldv_s, ldx_0, ldx_s, ldi_0, ldi_s, ldr_0, ldr_s, fg_0_0, fg_0_1, fg_0_2, fg_0_3, fg_0_4, fg_0_5, fg_1_0, fg_1_1, fg_1_2, fg_1_3, fg_1_4, fg_1_5, fg_1_6, fg_1_7, fg_2_0, fg_2_1, fg_2_2, fg_2_3, fg_2_4, fg_2_5, fg_3_0, fg_3_1, fg_4_0, fg_4_1, fg_4_2, fg_4_3, fg_4_4, fg_4_5, fg_5_0, fg_5_1, fg_5_2, fg_5_3, fg_5_4, fg_5_5, fg_5_6, fg_6_0, fg_6_1, fg_6_2, fg_6_3, fg_7_0, fg_7_1, fg_7_2, fg_7_3, fg_7_4, fg_7_5, fg_8_0, fg_8_1, fg_8_2, fg_8_3, fg_8_4, fg_8_5, fg_8_6, fg_8_7, fg_8_8, fg_8_9, fg_8_10, fg_8_11, fg_8_12, fg_8_13, fk, rd, al_9, al_10, al_11, al_13, al_12_0, al_12_1, al_12_2, al_12_3, al_12_4, al_12_5, al_12_6, al_12_7, al_12_8, al_12_9, al_12_10, al_12_11, stepd_ok dX8_laysAll_0, sf_iconst, stepd_ok dX8_laysAll_1, sf_istore_n2, stepd_ok dX8_laysAll_2, sf_iload_n2, stepd_ok dX8_laysAll_3, sf_bipush, stepd_ok dX8_laysAll_5, jk_at (pc := 5) (off := 16) (t := 21) rfl, jo_at (pc := 5) (off := 16) (t := 21) rfl, sf_if_icmp_ge, stepd_ok dX8_laysAll_8, sf_aload_n0, stepd_ok dX8_laysAll_9, sf_getfield (P := pr_X8_laysAll) ftX8_25, stepd_ok dX8_laysAll_12, stepd_ok dX8_laysAll_13, stepd_ok dX8_laysAll_14, sf_iastore, stepd_ok dX8_laysAll_15, sf_iinc, stepd_ok dX8_laysAll_18, jk_at (pc := 18) (off := -16) (t := 2) rfl, sf_goto, stepd_ok dX8_laysAll_21, stepd_ok dX8_laysAll_22, stepd_ok dX8_laysAll_23, stepd_ok dX8_laysAll_24, stepd_ok dX8_laysAll_25, sf_getfield (P := pr_X8_laysAll) ftX8_7, stepd_ok dX8_laysAll_28, stepd_ok dX8_laysAll_29, sf_iaload, stepd_ok dX8_laysAll_30, jk_at (pc := 30) (off := 41) (t := 71) rfl, jo_at (pc := 30) (off := 41) (t := 71) rfl, stepd_ok dX8_laysAll_33, stepd_ok dX8_laysAll_34, stepd_ok dX8_laysAll_35, sf_inv (P := pr_X8_laysAll) ca_X8_laysAll_90 rfl, stepd_ok dX8_laysAll_38, sf_istore_n3, stepd_ok dX8_laysAll_39, stepd_ok dX8_laysAll_40, stepd_ok dX8_laysAll_41, sf_iload_n3, stepd_ok dX8_laysAll_42, sf_inv (P := pr_X8_laysAll) ca_X8_laysAll_93 rfl, stepd_ok dX8_laysAll_45, sf_putfield (P := pr_X8_laysAll) ftX8_113, stepd_ok dX8_laysAll_48, sf_iload_n1, stepd_ok dX8_laysAll_49, jk_at (pc := 49) (off := 11) (t := 60) rfl, jo_at (pc := 49) (off := 11) (t := 60) rfl, sf_ifCond_eq, stepd_ok dX8_laysAll_52, stepd_ok dX8_laysAll_53, stepd_ok dX8_laysAll_54, sf_inv (P := pr_X8_laysAll) ca_X8_laysAll_136 rfl, stepd_ok dX8_laysAll_57, jk_at (pc := 57) (off := 8) (t := 65) rfl, jo_at (pc := 57) (off := 8) (t := 65) rfl, sf_ifCond_ne, stepd_ok dX8_laysAll_60, stepd_ok dX8_laysAll_61, stepd_ok dX8_laysAll_62, sf_inv (P := pr_X8_laysAll) ca_X8_laysAll_139 rfl, stepd_ok dX8_laysAll_65, stepd_ok dX8_laysAll_68, jk_at (pc := 68) (off := -45) (t := 23) rfl, stepd_ok dX8_laysAll_71, stepd_ok dX8_laysAll_72, sf_inv (P := pr_X8_laysAll) ca_X8_laysAll_143 rfl, stepd_ok dX8_laysAll_75, stepd_ok dX8_laysAll_76, sf_inv (P := pr_X8_laysAll) ca_X8_laysAll_104 rfl, stepd_ok dX8_laysAll_79, sf_iret1 (P := pr_X8_laysAll) rfl rfl, sp_X8_ranked_e, sp_X8_sizeOf_e, sp_X8_keeps_e, sp_X8_spirals_e, sp_X8_takesOver2_e, sp_X8_placed_e, Nat.zero_lt_one, ri, ng]
      exact k
    | succ n ih =>
      intro i τ hi h1 h2 v3
      have ri : inR (i : Int) := by unfold inR; omega
      have lt : (i : Int) < 24 := by omega
      have i0 : (0 : Int) ≤ i := by omega
      refine run hG [2] 60 ?_
      simp only [wpn_s, wpn_0, br_T, br_F, st1, st2, true_and, and_true, ↓reduceIte, if_true, if_false, List.contains_nil, List.contains_cons, Bool.or_false, Bool.or_true, Bool.true_or, Bool.false_or, Bool.false_eq_true, bit_0, bit_1, bit_b, true_or, or_true, or_false, false_or, up_e, up_nc, up_nj, ne_eq, not_false_eq_true, not_true_eq_false, inR_n, inR_m1, bi_RT, br_bi, Nat.reduceAdd, Nat.reduceLT, Nat.reduceLeDiff, Nat.reduceEqDiff, Nat.reduceBEq, Nat.zero_le, Int.reduceAdd, Int.reduceNeg, Int.reduceLE, Int.reduceLT, Int.reduceToNat, Int.reduceNatCast, Int.reduceEq, Int.reduceSub, Int.reduceMul, false_implies, true_implies, implies_true, set_0, set_s, len_c, len_n, nc2_0, nc2_1i, nc2_1r, nc2_1j, nc2_s, rcv_e, take_c, take_z, drop_c, drop_z, rev_c, rev_n, app_c, app_n, tol_s, tol_n, Nat.le_refl, cnt_0, cnt_1, cnt_2, cnt_3, cnt_4, cnt_5, cnt_6, cnt_7, cnt_8, cnt_9, cnt_10, cnt_11, cnt_12, cnt_13, cnt_14, s1i_e, s2i_e, s1r_e, sir_e, siir_e, srir_e, c1_i, c1_r, s1v_e, s2v_e, ldv_0, ldv_s, ldx_0, ldx_s, ldi_0, ldi_s, ldr_0, ldr_s, fg_0_0, fg_0_1, fg_0_2, fg_0_3, fg_0_4, fg_0_5, fg_1_0, fg_1_1, fg_1_2, fg_1_3, fg_1_4, fg_1_5, fg_1_6, fg_1_7, fg_2_0, fg_2_1, fg_2_2, fg_2_3, fg_2_4, fg_2_5, fg_3_0, fg_3_1, fg_4_0, fg_4_1, fg_4_2, fg_4_3, fg_4_4, fg_4_5, fg_5_0, fg_5_1, fg_5_2, fg_5_3, fg_5_4, fg_5_5, fg_5_6, fg_6_0, fg_6_1, fg_6_2, fg_6_3, fg_7_0, fg_7_1, fg_7_2, fg_7_3, fg_7_4, fg_7_5, fg_8_0, fg_8_1, fg_8_2, fg_8_3, fg_8_4, fg_8_5, fg_8_6, fg_8_7, fg_8_8, fg_8_9, fg_8_10, fg_8_11, fg_8_12, fg_8_13, fk, rd, al_9, al_10, al_11, al_13, al_12_0, al_12_1, al_12_2, al_12_3, al_12_4, al_12_5, al_12_6, al_12_7, al_12_8, al_12_9, al_12_10, al_12_11, stepd_ok dX8_laysAll_0, sf_iconst, stepd_ok dX8_laysAll_1, sf_istore_n2, stepd_ok dX8_laysAll_2, sf_iload_n2, stepd_ok dX8_laysAll_3, sf_bipush, stepd_ok dX8_laysAll_5, jk_at (pc := 5) (off := 16) (t := 21) rfl, jo_at (pc := 5) (off := 16) (t := 21) rfl, sf_if_icmp_ge, stepd_ok dX8_laysAll_8, sf_aload_n0, stepd_ok dX8_laysAll_9, sf_getfield (P := pr_X8_laysAll) ftX8_25, stepd_ok dX8_laysAll_12, stepd_ok dX8_laysAll_13, stepd_ok dX8_laysAll_14, sf_iastore, stepd_ok dX8_laysAll_15, sf_iinc, stepd_ok dX8_laysAll_18, jk_at (pc := 18) (off := -16) (t := 2) rfl, sf_goto, stepd_ok dX8_laysAll_21, stepd_ok dX8_laysAll_22, stepd_ok dX8_laysAll_23, stepd_ok dX8_laysAll_24, stepd_ok dX8_laysAll_25, sf_getfield (P := pr_X8_laysAll) ftX8_7, stepd_ok dX8_laysAll_28, stepd_ok dX8_laysAll_29, sf_iaload, stepd_ok dX8_laysAll_30, jk_at (pc := 30) (off := 41) (t := 71) rfl, jo_at (pc := 30) (off := 41) (t := 71) rfl, stepd_ok dX8_laysAll_33, stepd_ok dX8_laysAll_34, stepd_ok dX8_laysAll_35, sf_inv (P := pr_X8_laysAll) ca_X8_laysAll_90 rfl, stepd_ok dX8_laysAll_38, sf_istore_n3, stepd_ok dX8_laysAll_39, stepd_ok dX8_laysAll_40, stepd_ok dX8_laysAll_41, sf_iload_n3, stepd_ok dX8_laysAll_42, sf_inv (P := pr_X8_laysAll) ca_X8_laysAll_93 rfl, stepd_ok dX8_laysAll_45, sf_putfield (P := pr_X8_laysAll) ftX8_113, stepd_ok dX8_laysAll_48, sf_iload_n1, stepd_ok dX8_laysAll_49, jk_at (pc := 49) (off := 11) (t := 60) rfl, jo_at (pc := 49) (off := 11) (t := 60) rfl, sf_ifCond_eq, stepd_ok dX8_laysAll_52, stepd_ok dX8_laysAll_53, stepd_ok dX8_laysAll_54, sf_inv (P := pr_X8_laysAll) ca_X8_laysAll_136 rfl, stepd_ok dX8_laysAll_57, jk_at (pc := 57) (off := 8) (t := 65) rfl, jo_at (pc := 57) (off := 8) (t := 65) rfl, sf_ifCond_ne, stepd_ok dX8_laysAll_60, stepd_ok dX8_laysAll_61, stepd_ok dX8_laysAll_62, sf_inv (P := pr_X8_laysAll) ca_X8_laysAll_139 rfl, stepd_ok dX8_laysAll_65, stepd_ok dX8_laysAll_68, jk_at (pc := 68) (off := -45) (t := 23) rfl, stepd_ok dX8_laysAll_71, stepd_ok dX8_laysAll_72, sf_inv (P := pr_X8_laysAll) ca_X8_laysAll_143 rfl, stepd_ok dX8_laysAll_75, stepd_ok dX8_laysAll_76, sf_inv (P := pr_X8_laysAll) ca_X8_laysAll_104 rfl, stepd_ok dX8_laysAll_79, sf_iret1 (P := pr_X8_laysAll) rfl rfl, sp_X8_ranked_e, sp_X8_sizeOf_e, sp_X8_keeps_e, sp_X8_spirals_e, sp_X8_takesOver2_e, sp_X8_placed_e, Nat.zero_lt_one, ri, lt, i0, Int.toNat_natCast]
      refine ih (i + 1) _ (by omega) (fun k hk => ?_) (fun c i2 k h => ?_) v3
      · rcases Nat.lt_succ_iff_lt_or_eq.mp hk with q | q
        · rw [up_nj (by omega)]; exact h1 k q
        · subst q; exact up_e
      · rw [up_k (by omega)]; exact h2 c i2 k h
  refine run hG [2] 60 ?_
  simp only [wpn_s, wpn_0, br_T, br_F, st1, st2, true_and, and_true, ↓reduceIte, if_true, if_false, List.contains_nil, List.contains_cons, Bool.or_false, Bool.or_true, Bool.true_or, Bool.false_or, Bool.false_eq_true, bit_0, bit_1, bit_b, true_or, or_true, or_false, false_or, up_e, up_nc, up_nj, ne_eq, not_false_eq_true, not_true_eq_false, inR_n, inR_m1, bi_RT, br_bi, Nat.reduceAdd, Nat.reduceLT, Nat.reduceLeDiff, Nat.reduceEqDiff, Nat.reduceBEq, Nat.zero_le, Int.reduceAdd, Int.reduceNeg, Int.reduceLE, Int.reduceLT, Int.reduceToNat, Int.reduceNatCast, Int.reduceEq, Int.reduceSub, Int.reduceMul, false_implies, true_implies, implies_true, set_0, set_s, len_c, len_n, nc2_0, nc2_1i, nc2_1r, nc2_1j, nc2_s, rcv_e, take_c, take_z, drop_c, drop_z, rev_c, rev_n, app_c, app_n, tol_s, tol_n, Nat.le_refl, cnt_0, cnt_1, cnt_2, cnt_3, cnt_4, cnt_5, cnt_6, cnt_7, cnt_8, cnt_9, cnt_10, cnt_11, cnt_12, cnt_13, cnt_14, s1i_e, s2i_e, s1r_e, sir_e, siir_e, srir_e, c1_i, c1_r, s1v_e, s2v_e, ldv_0, ldv_s, ldx_0, ldx_s, ldi_0, ldi_s, ldr_0, ldr_s, fg_0_0, fg_0_1, fg_0_2, fg_0_3, fg_0_4, fg_0_5, fg_1_0, fg_1_1, fg_1_2, fg_1_3, fg_1_4, fg_1_5, fg_1_6, fg_1_7, fg_2_0, fg_2_1, fg_2_2, fg_2_3, fg_2_4, fg_2_5, fg_3_0, fg_3_1, fg_4_0, fg_4_1, fg_4_2, fg_4_3, fg_4_4, fg_4_5, fg_5_0, fg_5_1, fg_5_2, fg_5_3, fg_5_4, fg_5_5, fg_5_6, fg_6_0, fg_6_1, fg_6_2, fg_6_3, fg_7_0, fg_7_1, fg_7_2, fg_7_3, fg_7_4, fg_7_5, fg_8_0, fg_8_1, fg_8_2, fg_8_3, fg_8_4, fg_8_5, fg_8_6, fg_8_7, fg_8_8, fg_8_9, fg_8_10, fg_8_11, fg_8_12, fg_8_13, fk, rd, al_9, al_10, al_11, al_13, al_12_0, al_12_1, al_12_2, al_12_3, al_12_4, al_12_5, al_12_6, al_12_7, al_12_8, al_12_9, al_12_10, al_12_11, stepd_ok dX8_laysAll_0, sf_iconst, stepd_ok dX8_laysAll_1, sf_istore_n2, stepd_ok dX8_laysAll_2, sf_iload_n2, stepd_ok dX8_laysAll_3, sf_bipush, stepd_ok dX8_laysAll_5, jk_at (pc := 5) (off := 16) (t := 21) rfl, jo_at (pc := 5) (off := 16) (t := 21) rfl, sf_if_icmp_ge, stepd_ok dX8_laysAll_8, sf_aload_n0, stepd_ok dX8_laysAll_9, sf_getfield (P := pr_X8_laysAll) ftX8_25, stepd_ok dX8_laysAll_12, stepd_ok dX8_laysAll_13, stepd_ok dX8_laysAll_14, sf_iastore, stepd_ok dX8_laysAll_15, sf_iinc, stepd_ok dX8_laysAll_18, jk_at (pc := 18) (off := -16) (t := 2) rfl, sf_goto, stepd_ok dX8_laysAll_21, stepd_ok dX8_laysAll_22, stepd_ok dX8_laysAll_23, stepd_ok dX8_laysAll_24, stepd_ok dX8_laysAll_25, sf_getfield (P := pr_X8_laysAll) ftX8_7, stepd_ok dX8_laysAll_28, stepd_ok dX8_laysAll_29, sf_iaload, stepd_ok dX8_laysAll_30, jk_at (pc := 30) (off := 41) (t := 71) rfl, jo_at (pc := 30) (off := 41) (t := 71) rfl, stepd_ok dX8_laysAll_33, stepd_ok dX8_laysAll_34, stepd_ok dX8_laysAll_35, sf_inv (P := pr_X8_laysAll) ca_X8_laysAll_90 rfl, stepd_ok dX8_laysAll_38, sf_istore_n3, stepd_ok dX8_laysAll_39, stepd_ok dX8_laysAll_40, stepd_ok dX8_laysAll_41, sf_iload_n3, stepd_ok dX8_laysAll_42, sf_inv (P := pr_X8_laysAll) ca_X8_laysAll_93 rfl, stepd_ok dX8_laysAll_45, sf_putfield (P := pr_X8_laysAll) ftX8_113, stepd_ok dX8_laysAll_48, sf_iload_n1, stepd_ok dX8_laysAll_49, jk_at (pc := 49) (off := 11) (t := 60) rfl, jo_at (pc := 49) (off := 11) (t := 60) rfl, sf_ifCond_eq, stepd_ok dX8_laysAll_52, stepd_ok dX8_laysAll_53, stepd_ok dX8_laysAll_54, sf_inv (P := pr_X8_laysAll) ca_X8_laysAll_136 rfl, stepd_ok dX8_laysAll_57, jk_at (pc := 57) (off := 8) (t := 65) rfl, jo_at (pc := 57) (off := 8) (t := 65) rfl, sf_ifCond_ne, stepd_ok dX8_laysAll_60, stepd_ok dX8_laysAll_61, stepd_ok dX8_laysAll_62, sf_inv (P := pr_X8_laysAll) ca_X8_laysAll_139 rfl, stepd_ok dX8_laysAll_65, stepd_ok dX8_laysAll_68, jk_at (pc := 68) (off := -45) (t := 23) rfl, stepd_ok dX8_laysAll_71, stepd_ok dX8_laysAll_72, sf_inv (P := pr_X8_laysAll) ca_X8_laysAll_143 rfl, stepd_ok dX8_laysAll_75, stepd_ok dX8_laysAll_76, sf_inv (P := pr_X8_laysAll) ca_X8_laysAll_104 rfl, stepd_ok dX8_laysAll_79, sf_iret1 (P := pr_X8_laysAll) rfl rfl, sp_X8_ranked_e, sp_X8_sizeOf_e, sp_X8_keeps_e, sp_X8_spirals_e, sp_X8_takesOver2_e, sp_X8_placed_e]
  exact zero 24 0 σ rfl (fun k hk => absurd hk (by omega)) (fun _ _ _ _ => rfl) vj
theorem cn_X8_laysAll (l : Launch) (Γ : Ga) : Cn l Γ yX8_laysAll (wsy yX8_laysAll cX8_laysAll 4 (some .int)) rm_X8_laysAll 0 sp_X8_laysAll := Cn_of (P := pr_X8_laysAll) (own := RX8) (by decide) rfl rfl (by decide) rfl ⟨rfl, rfl⟩ ftX8_ok (List.forall_mem_cons.mpr ⟨callV_of (rc := 8) (cn_X8_ranked l Γ) rfl rfl (List.forall_mem_cons.mpr ⟨wl_X8_90, fun _ h => wm_X8_ranked h⟩) ⟨rfl, by decide, by decide, by decide +kernel⟩ ⟨by decide, by decide⟩, List.forall_mem_cons.mpr ⟨callV_of (rc := 8) (cn_X8_sizeOf l Γ) rfl rfl (List.forall_mem_cons.mpr ⟨wl_X8_93, fun _ h => wm_X8_sizeOf h⟩) ⟨rfl, by decide, by decide, by decide +kernel⟩ ⟨by decide, by decide⟩, List.forall_mem_cons.mpr ⟨callV_of (rc := 8) (cn_X8_keeps l Γ) rfl rfl (List.forall_mem_cons.mpr ⟨wl_X8_136, fun _ h => wm_X8_keeps h⟩) ⟨rfl, by decide, by decide, by decide +kernel⟩ ⟨by decide, by decide⟩, List.forall_mem_cons.mpr ⟨callV_of (rc := 8) (cn_X8_spirals l Γ) rfl rfl (List.forall_mem_cons.mpr ⟨wl_X8_139, fun _ h => wm_X8_spirals h⟩) ⟨rfl, by decide, by decide, by decide +kernel⟩ ⟨by decide, by decide⟩, List.forall_mem_cons.mpr ⟨callV_of (rc := 8) (cn_X8_takesOver2 l Γ) rfl rfl (List.forall_mem_cons.mpr ⟨wl_X8_143, fun _ h => wm_X8_takesOver h⟩) ⟨rfl, by decide, by decide, by decide +kernel⟩ ⟨by decide, by decide⟩, List.forall_mem_cons.mpr ⟨callV_of (rc := 8) (cn_X8_placed l Γ) rfl rfl (List.forall_mem_cons.mpr ⟨wl_X8_104, fun _ h => wm_X8_placed h⟩) ⟨rfl, by decide, by decide, by decide +kernel⟩ ⟨by decide, by decide⟩, fun _ h => (List.not_mem_nil h).elim⟩⟩⟩⟩⟩⟩) (fun _ h => (List.not_mem_nil h).elim) (fun _ _ _ _ _ _ _ _ _ _ q hq => (List.not_mem_nil hq).elim) sem_X8_laysAll
def sp_X8_lay : Spec := fun a σ K KX => ∃ (q : Nat) (kp : Int), a = [vr 8 q, vi kp] ∧ (q < 1 ∧ VOK (mS σ) (mV σ) ∧ (0 ≤ σ 8 0 3 ∧ σ 8 0 3 ≤ 4) ∧ bitOK kp ∧ ∀ τ σ' z, MSav (up3 σ 8 0 4 0) τ → OutZ (mS σ) (mV σ) kp z → LayM τ σ' z → K (some (vi (ct (fun w => 0 < z w 2) (nS (mS σ))))) σ')
theorem sp_X8_lay_e {q : Nat} {kp : Int} {σ : Sto} {K : Option AV → Sto → Prop} {KX : Nat → Sto → Prop} : sp_X8_lay [vr 8 q, vi kp] σ K KX = (q < 1 ∧ VOK (mS σ) (mV σ) ∧ (0 ≤ σ 8 0 3 ∧ σ 8 0 3 ≤ 4) ∧ bitOK kp ∧ ∀ τ σ' z, MSav (up3 σ 8 0 4 0) τ → OutZ (mS σ) (mV σ) kp z → LayM τ σ' z → K (some (vi (ct (fun w => 0 < z w 2) (nS (mS σ))))) σ') := propext ⟨fun h => by obtain ⟨_, _, h, hb⟩ := h; cases h; exact hb, fun hb => ⟨_, _, rfl, hb⟩⟩
def pr_X8_lay : Par := (ftX8, [(65, (1, 0, 8 + 1, sp_X8_save)), (146, (2, 0, 8 + 1, sp_X8_laysAll))], [], [], 1, 0, none)
def rm_X8_lay : Room := { frames := 6, cells := 0, slots := 0, locals := 145 }
theorem ca_X8_lay_65 : List.lookup 65 pr_X8_lay.2.1 = some (1, 0, 8 + 1, sp_X8_save) := rfl
theorem ca_X8_lay_146 : List.lookup 146 pr_X8_lay.2.1 = some (2, 0, 8 + 1, sp_X8_laysAll) := rfl
set_option maxRecDepth 100000 in
set_option maxHeartbeats 4000000 in
theorem sem_X8_lay : Sem pr_X8_lay cX8_lay 2 sp_X8_lay := by
  rintro a σ K KX ⟨q, kp, rfl, hq, hV, hc, hkp, hK⟩
  refine ⟨by simp [vr, vi, vl, nj], Nat.le_of_ble_eq_true rfl, fun G hG => ?_⟩
  have hq0 : q = 0 := by omega
  subst hq0
  show G 0 [vr 8 0, vi kp] [] σ 0
  have k : ∀ τ, MSav (up3 σ 8 0 4 0) τ → G 9 [vr 8 0, vi kp] [] τ 0 := by
    intro τ hs
    have e := msav_v hs
    rw [mS_8, mV_8] at e
    have e1 := e.1
    have e2 := e.2
    have kk := fun σ' z => hK τ σ' z hs
    refine run hG [] 60 ?_
    simp only [wpn_s, wpn_0, br_T, br_F, st1, st2, true_and, and_true, ↓reduceIte, if_true, if_false, List.contains_nil, List.contains_cons, Bool.or_false, Bool.or_true, Bool.true_or, Bool.false_or, Bool.false_eq_true, bit_0, bit_1, bit_b, true_or, or_true, or_false, false_or, up_e, up_nc, up_nj, ne_eq, not_false_eq_true, not_true_eq_false, inR_n, inR_m1, bi_RT, br_bi, Nat.reduceAdd, Nat.reduceLT, Nat.reduceLeDiff, Nat.reduceEqDiff, Nat.reduceBEq, Nat.zero_le, Int.reduceAdd, Int.reduceNeg, Int.reduceLE, Int.reduceLT, Int.reduceToNat, Int.reduceNatCast, Int.reduceEq, Int.reduceSub, Int.reduceMul, false_implies, true_implies, implies_true, rcv_e, take_c, take_z, drop_c, drop_z, rev_c, rev_n, app_c, app_n, tol_s, tol_n, len_c, len_n, Nat.le_refl, cnt_0, cnt_1, cnt_2, cnt_3, cnt_4, cnt_5, cnt_6, cnt_7, cnt_8, cnt_9, cnt_10, cnt_11, cnt_12, cnt_13, cnt_14, s1i_e, s2i_e, s1r_e, sir_e, siir_e, srir_e, c1_i, c1_r, s1v_e, s2v_e, ldv_0, ldv_s, ldx_0, ldx_s, ldi_0, ldi_s, ldr_0, ldr_s, fg_0_0, fg_0_1, fg_0_2, fg_0_3, fg_0_4, fg_0_5, fg_1_0, fg_1_1, fg_1_2, fg_1_3, fg_1_4, fg_1_5, fg_1_6, fg_1_7, fg_2_0, fg_2_1, fg_2_2, fg_2_3, fg_2_4, fg_2_5, fg_3_0, fg_3_1, fg_4_0, fg_4_1, fg_4_2, fg_4_3, fg_4_4, fg_4_5, fg_5_0, fg_5_1, fg_5_2, fg_5_3, fg_5_4, fg_5_5, fg_5_6, fg_6_0, fg_6_1, fg_6_2, fg_6_3, fg_7_0, fg_7_1, fg_7_2, fg_7_3, fg_7_4, fg_7_5, fg_8_0, fg_8_1, fg_8_2, fg_8_3, fg_8_4, fg_8_5, fg_8_6, fg_8_7, fg_8_8, fg_8_9, fg_8_10, fg_8_11, fg_8_12, fg_8_13, fk, stepd_ok dX8_lay_0, sf_aload_n0, stepd_ok dX8_lay_1, sf_iconst, stepd_ok dX8_lay_2, sf_putfield (P := pr_X8_lay) ftX8_37, stepd_ok dX8_lay_5, stepd_ok dX8_lay_6, sf_inv (P := pr_X8_lay) ca_X8_lay_65 rfl, stepd_ok dX8_lay_9, stepd_ok dX8_lay_10, sf_iload_n1, stepd_ok dX8_lay_11, sf_inv (P := pr_X8_lay) ca_X8_lay_146 rfl, stepd_ok dX8_lay_14, sf_iret1 (P := pr_X8_lay) rfl rfl, sp_X8_save_e, sp_X8_laysAll_e, Nat.zero_lt_one, e1, e2, hV, hkp]
    exact kk
  refine run hG [9] 60 ?_
  simp only [wpn_s, wpn_0, br_T, br_F, st1, st2, true_and, and_true, ↓reduceIte, if_true, if_false, List.contains_nil, List.contains_cons, Bool.or_false, Bool.or_true, Bool.true_or, Bool.false_or, Bool.false_eq_true, bit_0, bit_1, bit_b, true_or, or_true, or_false, false_or, up_e, up_nc, up_nj, ne_eq, not_false_eq_true, not_true_eq_false, inR_n, inR_m1, bi_RT, br_bi, Nat.reduceAdd, Nat.reduceLT, Nat.reduceLeDiff, Nat.reduceEqDiff, Nat.reduceBEq, Nat.zero_le, Int.reduceAdd, Int.reduceNeg, Int.reduceLE, Int.reduceLT, Int.reduceToNat, Int.reduceNatCast, Int.reduceEq, Int.reduceSub, Int.reduceMul, false_implies, true_implies, implies_true, rcv_e, take_c, take_z, drop_c, drop_z, rev_c, rev_n, app_c, app_n, tol_s, tol_n, len_c, len_n, Nat.le_refl, cnt_0, cnt_1, cnt_2, cnt_3, cnt_4, cnt_5, cnt_6, cnt_7, cnt_8, cnt_9, cnt_10, cnt_11, cnt_12, cnt_13, cnt_14, s1i_e, s2i_e, s1r_e, sir_e, siir_e, srir_e, c1_i, c1_r, s1v_e, s2v_e, ldv_0, ldv_s, ldx_0, ldx_s, ldi_0, ldi_s, ldr_0, ldr_s, fg_0_0, fg_0_1, fg_0_2, fg_0_3, fg_0_4, fg_0_5, fg_1_0, fg_1_1, fg_1_2, fg_1_3, fg_1_4, fg_1_5, fg_1_6, fg_1_7, fg_2_0, fg_2_1, fg_2_2, fg_2_3, fg_2_4, fg_2_5, fg_3_0, fg_3_1, fg_4_0, fg_4_1, fg_4_2, fg_4_3, fg_4_4, fg_4_5, fg_5_0, fg_5_1, fg_5_2, fg_5_3, fg_5_4, fg_5_5, fg_5_6, fg_6_0, fg_6_1, fg_6_2, fg_6_3, fg_7_0, fg_7_1, fg_7_2, fg_7_3, fg_7_4, fg_7_5, fg_8_0, fg_8_1, fg_8_2, fg_8_3, fg_8_4, fg_8_5, fg_8_6, fg_8_7, fg_8_8, fg_8_9, fg_8_10, fg_8_11, fg_8_12, fg_8_13, fk, stepd_ok dX8_lay_0, sf_aload_n0, stepd_ok dX8_lay_1, sf_iconst, stepd_ok dX8_lay_2, sf_putfield (P := pr_X8_lay) ftX8_37, stepd_ok dX8_lay_5, stepd_ok dX8_lay_6, sf_inv (P := pr_X8_lay) ca_X8_lay_65 rfl, stepd_ok dX8_lay_9, stepd_ok dX8_lay_10, sf_iload_n1, stepd_ok dX8_lay_11, sf_inv (P := pr_X8_lay) ca_X8_lay_146 rfl, stepd_ok dX8_lay_14, sf_iret1 (P := pr_X8_lay) rfl rfl, sp_X8_save_e, sp_X8_laysAll_e, Nat.zero_lt_one, hc]
  exact k
theorem cn_X8_lay (l : Launch) (Γ : Ga) : Cn l Γ yX8_lay (wsy yX8_lay cX8_lay 2 (some .int)) rm_X8_lay 0 sp_X8_lay := Cn_of (P := pr_X8_lay) (own := RX8) (by decide) rfl rfl (by decide) rfl ⟨rfl, rfl⟩ ftX8_ok (List.forall_mem_cons.mpr ⟨callV_of (rc := 8) (cn_X8_save l Γ) rfl rfl (List.forall_mem_cons.mpr ⟨wl_X8_65, fun _ h => wm_X8_save h⟩) ⟨rfl, by decide, by decide, by decide +kernel⟩ ⟨by decide, by decide⟩, List.forall_mem_cons.mpr ⟨callV_of (rc := 8) (cn_X8_laysAll l Γ) rfl rfl (List.forall_mem_cons.mpr ⟨wl_X8_146, fun _ h => wm_X8_laysAll h⟩) ⟨rfl, by decide, by decide, by decide +kernel⟩ ⟨by decide, by decide⟩, fun _ h => (List.not_mem_nil h).elim⟩⟩) (fun _ h => (List.not_mem_nil h).elim) (fun _ _ _ _ _ _ _ _ _ _ q hq => (List.not_mem_nil hq).elim) sem_X8_lay
