theorem eqw_tr {S S' T T' : Nat → Int} {V V' U U' : Nat → Nat → Int} (h : EqW S V S' V') (h1 : ∀ k, k < 7 → T k = S k) (h2 : ∀ w, w < nS S → ∀ k, k < 19 → U w k = V w k) (h3 : ∀ k, k < 7 → T' k = S' k) (h4 : ∀ w, w < nS S → ∀ k, k < 19 → U' w k = V' w k) : EqW T U T' U' := by
  have en : nS T = nS S := by unfold nS; rw [h1 5 (by omega)]
  refine ⟨fun k hk => by rw [h3 k hk, h1 k hk]; exact h.1 k hk, fun w hw k hk => ?_⟩
  rw [en] at hw
  rw [h2 w hw 0 (by omega)] at hk
  rw [h4 w hw k (by omega), h2 w hw k (by omega)]
  exact h.2 w hw k hk
theorem eqw_trans {S S' S2 : Nat → Int} {V V' V2 : Nat → Nat → Int} (h : EqW S V S' V') (h' : EqW S' V' S2 V2) : EqW S V S2 V2 := by
  refine ⟨fun k hk => by rw [h'.1 k hk, h.1 k hk], fun w hw k hk => ?_⟩
  rw [h'.2 w (by rw [eqw_n h]; exact hw) k (by rw [VEq_0 h.2 hw]; exact hk), h.2 w hw k hk]
def sS (σ : Sto) (j : Nat) : Nat → Int := fun k => σ 12 4 (463 * j + k)
def sV (σ : Sto) (j : Nat) : Nat → Nat → Int := fun w k => σ 12 4 (463 * j + (7 + 19 * w + k))
/-- no two words have the same letters -/
def DisV (n : Nat) (V : Nat → Nat → Int) : Prop := ∀ o o', o < n → o' < n → SamV V o V o' → o = o'
def SvC (σ : Sto) (j : Nat) : Prop := EqW (sS σ j) (sV σ j) (vS σ (σ 11 0 j).toNat) (vV σ (σ 11 0 j).toNat) ∧ DisV (nS (sS σ j)) (sV σ j)
def TxC (σ : Sto) : Prop := σ 6 0 1 = σ 8 0 12 ∧ ∀ k, k < 200 → σ 12 2 k = σ 12 11 k
def CpW (σ : Sto) : Prop := EqW (mS σ) (mV σ) (vS σ 0) (vV σ 0) ∧ DisV (nS (mS σ)) (mV σ)
/-- class and model tell the same -/
def Cp (σ : Sto) : Prop := CI σ ∧ CpW σ ∧ (σ 3 0 1 = σ 8 0 3 ∧ ∀ j : Nat, (j : Int) < σ 3 0 1 → SvC σ j) ∧ TxC σ
theorem vok_of {σ : Sto} {c : Nat} {S : Nat → Int} {V : Nat → Nat → Int} (hP : Phy σ) (hc : c < 6) (hC : ClOK σ c) (hS : SetOK σ c) (h : EqW S V (vS σ c) (vV σ c)) : VOK S V := by
  have s := h.1
  have e0 : vS σ c 0 = σ 1 c 2 := rfl
  have e1 : vS σ c 1 = σ 1 c 3 := rfl
  have e2 : vS σ c 2 = σ 1 c 4 := rfl
  have e3 : vS σ c 3 = σ 1 c 5 := rfl
  have e4 : vS σ c 4 = σ 1 c 6 := rfl
  have e5 : vS σ c 5 = σ 1 c 1 := rfl
  have e6 : vS σ c 6 = σ 1 c 7 := rfl
  have enn : nS S = cn_ σ c := by rw [← eqw_n h]; rfl
  have n24 : cn_ σ c ≤ 24 := by have := hC.1; unfold cn_; omega
  refine ⟨?_, fun w hw => ?_⟩
  · unfold SetOK at hS
    have := hC.1
    unfold SOK
    rw [← s 0 (by omega), ← s 1 (by omega), ← s 2 (by omega), ← s 3 (by omega), ← s 4 (by omega), ← s 5 (by omega), ← s 6 (by omega), e0, e1, e2, e3, e4, e5, e6]
    omega
  · have hw' : w < cn_ σ c := by rw [← enn]; exact hw
    have hE := hC.2 w hw'
    have he := (en_lt hP hc (show w < 24 by omega)).1
    have hb := (hP.1 (en σ c w) (by omega)).2
    unfold EntOK at hE
    have v0 : V w 0 = σ 2 (en σ c w) 2 := by rw [← VEq_0 h.2 hw]; rfl
    have v11 : V w 11 = σ 2 (en σ c w) 3 := by rw [← eqw_k h hw (k := 11) (by omega) (by omega)]; rfl
    have v12 : V w 12 = σ 2 (en σ c w) 4 := by rw [← eqw_k h hw (k := 12) (by omega) (by omega)]; rfl
    have v13 : V w 13 = σ 2 (en σ c w) 5 := by rw [← eqw_k h hw (k := 13) (by omega) (by omega)]; rfl
    have vh : ∀ k, 14 ≤ k → k < 19 → V w k = if σ 0 (en σ c w) 0 = 1 then (if k = 18 then σ 0 (en σ c w) 1 else σ 0 (en σ c w) (k - 12)) else 0 := fun k a b => by rw [← eqw_k h hw (k := k) (by omega) b]; exact vV_hi a
    refine ⟨by rw [v0]; exact hE.1, fun k hk => ?_, by rw [v11]; exact hE.2.2.1, by rw [v12]; exact hE.2.2.2.1, by rw [v13]; exact hE.2.2.2.2.1, ?_⟩
    · rw [v0] at hk
      have e : V w (1 + k) = σ 10 (en σ c w) k := by
        rw [← h.2 w hw (1 + k) (Or.inr (Or.inl ⟨by omega, by omega, by rw [v0]; omega⟩))]
        unfold vV
        rw [if_neg (by omega), if_pos (by omega), show 1 + k - 1 = k by omega]
      rw [e]; exact hE.2.1 k hk
    · unfold POK
      rw [vh 14 (by omega) (by omega), vh 15 (by omega) (by omega), vh 16 (by omega) (by omega), vh 17 (by omega) (by omega), vh 18 (by omega) (by omega)]
      by_cases hp : σ 0 (en σ c w) 0 = 1
      · have := hE.2.2.2.2.2 hp
        simp only [hp, if_true]
        right
        exact ⟨⟨this.1, this.2.1⟩, ⟨this.2.2.1, this.2.2.2.1⟩, this.2.2.2.2.1, this.2.2.2.2.2, hb.2⟩
      · simp only [hp, if_false]
        left
        exact ⟨trivial, trivial, trivial, trivial, trivial⟩
theorem cp_vok {σ : Sto} (h : Cp σ) : VOK (mS σ) (mV σ) := vok_of h.1.1 (by omega) h.1.2.2.1 h.1.2.2.2.1 h.2.1.1
theorem cp_tx {σ : Sto} (h : Cp σ) : TxM σ ∧ hrm σ = hrc σ := by
  have hT := h.1.2.2.2.2.2.2.1
  obtain ⟨a, b⟩ := h.2.2.2
  unfold TxOK at hT
  refine ⟨⟨by omega, fun k hk => ?_⟩, ?_⟩
  · rw [← b k (by omega)]; exact hT.2 k (by omega)
  · funext p
    unfold hrm hrc
    rw [a]
    split
    · rw [b p.toNat (by omega)]
    · rfl
theorem dis_c {n : Nat} {V U : Nat → Nat → Int} (h : DisV n V) (hl : ∀ w, w < n → V w 0 ≤ 10) (e : ∀ w, w < n → ∀ k, k < 11 → U w k = V w k) : DisV n U := by
  intro o o' ho ho' hs
  refine h o o' ho ho' ?_
  obtain ⟨a, b⟩ := hs
  rw [e o ho 0 (by omega), e o' ho' 0 (by omega)] at a
  refine ⟨a, fun k hk => ?_⟩
  have h10 := hl o ho
  have := b k (by rw [e o ho 0 (by omega)]; exact hk)
  rw [e o ho (1 + k) (by omega), e o' ho' (1 + k) (by omega)] at this
  exact this
def SameC (σ σ' : Sto) : Prop := (∀ c k : Nat, c ≠ 1 → c < 6 → σ' 1 c k = σ 1 c k ∧ σ' 9 c k = σ 9 c k) ∧ (∀ i, (i < 24 ∨ (48 ≤ i ∧ i < 144)) → ∀ c k : Nat, c = 0 ∨ c = 2 ∨ c = 10 → σ' c i k = σ c i k) ∧ (∀ k, σ' 11 0 k = σ 11 0 k) ∧ σ' 3 0 1 = σ 3 0 1 ∧ σ' 6 0 1 = σ 6 0 1 ∧ ∀ k, σ' 12 2 k = σ 12 2 k
def SameM (σ σ' : Sto) : Prop := (∀ k, k < 463 → σ' 12 3 k = σ 12 3 k) ∧ (∀ k, σ' 12 4 k = σ 12 4 k) ∧ (∀ k, σ' 12 11 k = σ 12 11 k) ∧ σ' 8 0 3 = σ 8 0 3 ∧ σ' 8 0 12 = σ 8 0 12
theorem vS_c {σ σ' : Sto} {c : Nat} (h : ∀ k, σ' 1 c k = σ 1 c k) (k : Nat) : vS σ' c k = vS σ c k := by unfold vS; simp only [h]
theorem vV_c {σ σ' : Sto} {c w : Nat} (hP : Phy σ) (hc : c < 6) (hw : w < 24) (h9 : ∀ k, σ' 9 c k = σ 9 c k) (he : ∀ i, 24 * c ≤ i → i < 24 * c + 24 → ∀ d k : Nat, d = 0 ∨ d = 2 ∨ d = 10 → σ' d i k = σ d i k) (k : Nat) : vV σ' c w k = vV σ c w k := by
  have e : en σ' c w = en σ c w := by unfold en; rw [h9]
  have hl := en_lt hP hc hw
  have f : ∀ d k : Nat, d = 0 ∨ d = 2 ∨ d = 10 → σ' d (en σ c w) k = σ d (en σ c w) k := fun d k hd => he _ hl.2.1 hl.2.2 d k hd
  unfold vV
  rw [e, f 2 2 (by omega), f 10 (k - 1) (by omega), f 2 (k - 8) (by omega), f 0 0 (by omega), f 0 1 (by omega), f 0 (k - 12) (by omega)]
theorem cp_n24 {σ : Sto} (h : Cp σ) : nS (mS σ) ≤ 24 := nS_24 (cp_vok h)
theorem sv_vok {σ : Sto} (h : Cp σ) {j : Nat} (hj : (j : Int) < σ 3 0 1) : VOK (sS σ j) (sV σ j) := by
  have hn := h.1.2.2.2.2.1
  have a := h.1.1.2.2.2.1 j (by omega)
  have b := h.1.2.2.2.2.2.1 j hj
  exact vok_of h.1.1 (by omega) b.1 b.2 (h.2.2.1.2 j hj).1
theorem vok_24 {S : Nat → Int} {V : Nat → Nat → Int} (h : VOK S V) : nS S ≤ 24 := by have := h.1.2.2.2.2.2.1; unfold nS; omega
theorem cp_q {σ σ' : Sto} (h : Cp σ) (hI : CI σ') (hc : SameC σ σ') (hm : SameM σ σ') : Cp σ' := by
  obtain ⟨c1, c2, c3, c4, c5, c6⟩ := hc
  obtain ⟨m1, m2, m3, m4, m5⟩ := hm
  have hP := h.1.1
  have n24 := cp_n24 h
  have hV := cp_vok h
  have eS : ∀ k, k < 7 → mS σ' k = mS σ k := fun k hk => m1 k (by omega)
  have eV : ∀ w, w < nS (mS σ) → ∀ k, k < 19 → mV σ' w k = mV σ w k := fun w hw k hk => m1 _ (by omega)
  have en : nS (mS σ') = nS (mS σ) := by unfold nS; rw [eS 5 (by omega)]
  have view : ∀ c, c < 6 → c ≠ 1 → (∀ k, vS σ' c k = vS σ c k) ∧ ∀ w, w < 24 → ∀ k, vV σ' c w k = vV σ c w k := fun c hc hne => ⟨vS_c (fun k => (c1 c k hne hc).1), fun w hw => vV_c hP hc hw (fun k => (c1 c k hne hc).2) (fun i a b d k hd => c2 i (by omega) d k hd)⟩
  refine ⟨hI, ⟨eqw_tr h.2.1.1 eS eV (fun k _ => (view 0 (by omega) (by omega)).1 k) (fun w hw k _ => (view 0 (by omega) (by omega)).2 w (by omega) k), ?_⟩, ⟨by rw [c4, m4]; exact h.2.2.1.1, fun j hj => ?_⟩, ⟨by rw [c5, m5]; exact h.2.2.2.1, fun k hk => by rw [c6, m3]; exact h.2.2.2.2 k hk⟩⟩
  · rw [en]
    exact dis_c h.2.1.2 (fun w hw => by have := (hV.2 w hw).1; omega) (fun w hw k hk => eV w hw k (by omega))
  · rw [c4] at hj
    have hn := h.1.2.2.2.2.1
    have a := hP.2.2.2.1 j (by omega)
    have hs := h.2.2.1.2 j hj
    have hV2 := sv_vok h hj
    have n2 := vok_24 hV2
    have vw := view (σ 11 0 j).toNat (by omega) (by omega)
    unfold SvC
    rw [c3]
    have e1 : ∀ k, sS σ' j k = sS σ j k := fun k => m2 _
    have e2 : ∀ w k, sV σ' j w k = sV σ j w k := fun w k => m2 _
    have en2 : nS (sS σ' j) = nS (sS σ j) := by unfold nS; rw [e1]
    refine ⟨eqw_tr hs.1 (fun k _ => e1 k) (fun w _ k _ => e2 w k) (fun k _ => vw.1 k) (fun w hw k _ => vw.2 w (by omega) k), ?_⟩
    rw [en2]
    exact dis_c hs.2 (fun w hw => by have := (hV2.2 w hw).1; omega) (fun w _ k _ => e2 w k)
theorem ci_m {σ σ' : Sto} (h : CI σ) (f : ∀ c i k : Nat, c ≠ 8 → (c ≠ 12 ∨ i < 3) → σ' c i k = σ c i k) : CI σ' := by
  obtain ⟨hP, hG, hC, hS, hn, hsv, hT, hm⟩ := h
  have far : ∀ d, d < 6 → (ClOK σ d → ClOK σ' d) ∧ (SetOK σ d → SetOK σ' d) := fun d hd => fr_cl hP hd (fun k => f 1 d k (by omega) (by omega)) (fun k => f 9 d k (by omega) (by omega)) (fun i h1 h2 c' k hc => f c' i k (by omega) (by omega))
  have f0 : ∀ i k, σ' 0 i k = σ 0 i k := fun i k => f 0 i k (by omega) (by omega)
  refine ⟨phy_congr (fun c i k hc => f c i k (by omega) (by omega)) hP, ?_, (far 0 (by omega)).1 hC, (far 0 (by omega)).2 hS, by rw [f 3 0 1 (by omega) (by omega)]; exact hn, fun j hj => ?_, ?_, by rw [f 4 0 5 (by omega) (by omega)]; exact hm⟩
  · intro e he h0; simp only [f0] at h0 ⊢; exact hG e he h0
  · rw [f 3 0 1 (by omega) (by omega)] at hj
    rw [f 11 0 j (by omega) (by omega)]
    have a := hP.2.2.2.1 j (by omega)
    have b := hsv j hj
    have g := far (σ 11 0 j).toNat (by omega)
    exact ⟨g.1 b.1, g.2 b.2⟩
  · exact tx_congr (f 6 0 1 (by omega) (by omega)) (fun k => f 12 2 k (by omega) (by omega)) hT
theorem cp_m {σ σ' : Sto} (h : Cp σ) (f : ∀ c i k : Nat, c ≠ 8 → (c ≠ 12 ∨ i < 3) → σ' c i k = σ c i k) (hm : SameM σ σ') : Cp σ' :=
  cp_q h (ci_m h.1 f) ⟨fun c k _ _ => ⟨f 1 c k (by omega) (by omega), f 9 c k (by omega) (by omega)⟩, fun i _ c k hc => f c i k (by omega) (by omega), fun k => f 11 0 k (by omega) (by omega), f 3 0 1 (by omega) (by omega), f 6 0 1 (by omega) (by omega), fun k => f 12 2 k (by omega) (by omega)⟩ hm
theorem cp_8 {σ : Sto} (h : Cp σ) {t : Int} : Cp (up3 σ 8 0 4 t) := cp_m h (fun c i k a _ => up_nc a) ⟨fun k _ => up_nc (by omega), fun k => up_nc (by omega), fun k => up_nc (by omega), up_nj (by omega), up_nj (by omega)⟩
theorem cp_qu {σ σ' : Sto} {t : Int} (h : Cp σ) (hq : MQu σ σ' t) : Cp σ' := cp_m h (fun c i k a b => hq.2.2 c i k (by omega) (by omega)) ⟨hq.2.1, fun k => hq.2.2 12 4 k (by omega) (by omega), fun k => hq.2.2 12 11 k (by omega) (by omega), hq.2.2 8 0 3 (by omega) (by omega), hq.2.2 8 0 12 (by omega) (by omega)⟩
theorem cp_fa {σ σ' : Sto} (h : Cp σ) (hq : MFa σ σ') : Cp σ' := cp_m h (fun c i k a b => hq.2.2 c i k (by omega) (by omega)) ⟨hq.2.1, fun k => hq.2.2 12 4 k (by omega) (by omega), fun k => hq.2.2 12 11 k (by omega) (by omega), hq.2.2 8 0 3 (by omega) (by omega), hq.2.2 8 0 12 (by omega) (by omega)⟩
theorem cp_u {σ σ' : Sto} (h : Cp σ) (ht : TrU σ σ') : Cp σ' := by
  have f := ht.1
  refine cp_q h (ci_u h.1 ht) ⟨fun c k a b => ⟨f 1 c k (by omega) (by omega) (by omega) (by omega) (by omega) (by omega) (by omega), f 9 c k (by omega) (by omega) (by omega) (by omega) (by omega) (by omega) (by omega)⟩, fun i hi c k hc => f c i k (by omega) (by omega) (by omega) (by omega) (by omega) (by omega) (by omega), fun k => f 11 0 k (by omega) (by omega) (by omega) (by omega) (by omega) (by omega) (by omega), f 3 0 1 (by omega) (by omega) (by omega) (by omega) (by omega) (by omega) (by omega), f 6 0 1 (by omega) (by omega) (by omega) (by omega) (by omega) (by omega) (by omega), fun k => f 12 2 k (by omega) (by omega) (by omega) (by omega) (by omega) (by omega) (by omega)⟩ ⟨fun k _ => f 12 3 k (by omega) (by omega) (by omega) (by omega) (by omega) (by omega) (by omega), fun k => f 12 4 k (by omega) (by omega) (by omega) (by omega) (by omega) (by omega) (by omega), fun k => f 12 11 k (by omega) (by omega) (by omega) (by omega) (by omega) (by omega) (by omega), f 8 0 3 (by omega) (by omega) (by omega) (by omega) (by omega) (by omega) (by omega), f 8 0 12 (by omega) (by omega) (by omega) (by omega) (by omega) (by omega) (by omega)⟩
theorem cp_13 {σ σ' : Sto} (h : Cp σ) (f : Fr13 σ σ') : Cp σ' :=
  cp_q h (ci_13 h.1 f) ⟨fun c k _ _ => ⟨f 1 c k (by omega), f 9 c k (by omega)⟩, fun i _ c k hc => f c i k (by omega), fun k => f 11 0 k (by omega), f 3 0 1 (by omega), f 6 0 1 (by omega), fun k => f 12 2 k (by omega)⟩ ⟨fun k _ => f 12 3 k (by omega), fun k => f 12 4 k (by omega), fun k => f 12 11 k (by omega), f 8 0 3 (by omega), f 8 0 12 (by omega)⟩
/-- the invariant behind a change of the cloud itself -/
theorem ci_0 {τ σ' : Sto} (h : CI τ) (hP' : Phy σ') (hG' : BxG σ') (h0 : ClOK σ' 0) (hS' : SetOK σ' 0) (h45 : 0 ≤ σ' 4 0 5 ∧ σ' 4 0 5 ≤ 24) (hT' : TxOK σ') (hn : 0 ≤ σ' 3 0 1 ∧ σ' 3 0 1 ≤ τ 3 0 1) (e11 : ∀ k, σ' 11 0 k = τ 11 0 k) (f1 : ∀ d, 2 ≤ d → d < 6 → ∀ k, σ' 1 d k = τ 1 d k ∧ σ' 9 d k = τ 9 d k) (fe : ∀ i, 48 ≤ i → i < 144 → ∀ c k : Nat, c = 0 ∨ c = 2 ∨ c = 10 → σ' c i k = τ c i k) : CI σ' := by
  have n4 := h.2.2.2.2.1
  refine ⟨hP', hG', h0, hS', by omega, fun j hj => ?_, hT', h45⟩
  rw [e11]
  have a := h.1.2.2.2.1 j (by omega)
  have b := h.2.2.2.2.2.1 j (by omega)
  have g := fr_cl h.1 (d := (τ 11 0 j).toNat) (by omega) (fun k => (f1 _ (by omega) (by omega) k).1) (fun k => (f1 _ (by omega) (by omega) k).2) (fun i h1 h2 c k hc => fe i (by omega) (by omega) c k hc)
  exact ⟨g.1 b.1, g.2 b.2⟩
/-- the saved states behind a save, seen from the class -/
theorem savp_v {σ τ : Sto} (hI : CI σ) (hs : SavP σ τ 0) : (∀ k, vS τ 0 k = vS σ 0 k) ∧ (∀ w, w < 24 → ∀ k, vV τ 0 w k = vV σ 0 w k) ∧ ∀ j : Nat, (j : Int) < τ 3 0 1 → ((j : Int) = τ 3 0 1 - 1 → EqW (vS σ 0) (vV σ 0) (vS τ (τ 11 0 j).toNat) (vV τ (τ 11 0 j).toNat)) ∧ ((j : Int) ≠ τ 3 0 1 - 1 → ∃ i : Nat, i = (if σ 3 0 1 < 4 then j else j + 1) ∧ (i : Int) < σ 3 0 1 ∧ (∀ k, vS τ (τ 11 0 j).toNat k = vS σ (σ 11 0 i).toNat k) ∧ ∀ w, w < 24 → ∀ k, vV τ (τ 11 0 j).toNat w k = vV σ (σ 11 0 i).toNat w k) := by
  have h0 := savp_0 hI.1 hs
  obtain ⟨a, b, g, s, s2, s6, se, sa, sb, f⟩ := hs
  have hP := hI.1
  have n4 := hI.2.2.2.2.1
  have f9 : ∀ c' k, τ 9 c' k = σ 9 c' k := fun c' k => f 9 c' k (by omega) (by omega) (by omega) (by omega)
  refine ⟨vS_c h0.1, fun w hw => vV_c hP (by omega) hw h0.2.1 (fun i x y d k hd => h0.2.2 i (by omega) d k hd), fun j hj => ⟨fun hl => ?_, fun hl => ?_⟩⟩
  · have hj' : (τ 3 0 1 - 1).toNat = j := by omega
    rw [hj'] at se
    have es : (τ 11 0 j).toNat = s := by omega
    rw [es]
    refine ⟨fun k hk => ?_, fun w hw k hk => ?_⟩
    · unfold vS
      rw [sa 1 (by omega) (by omega), sa 2 (by omega) (by omega), sa 3 (by omega) (by omega), sa 4 (by omega) (by omega), sa 5 (by omega) (by omega), sa 6 (by omega) (by omega), sa 7 (by omega) (by omega)]
    · have e : en τ s w = en σ s w := by unfold en; rw [f9]
      obtain ⟨p, q, r⟩ := sb w hw
      have e0 : vV σ 0 w 0 = σ 2 (en σ 0 w) 2 := rfl
      unfold vV
      rw [e]
      by_cases c0 : k = 0
      · rw [if_pos c0, if_pos c0]; exact p 2 (by omega) (by omega)
      · rw [if_neg c0, if_neg c0]
        by_cases c1 : k < 11
        · rw [if_pos c1, if_pos c1]; exact q (k - 1) (by omega)
        · rw [if_neg c1, if_neg c1]
          by_cases c2 : k < 14
          · rw [if_pos c2, if_pos c2]; exact p (k - 8) (by omega) (by omega)
          · rw [if_neg c2, if_neg c2, r 0 (by omega), r 1 (by omega)]
            by_cases c3 : k = 18
            · rw [if_pos c3, if_pos c3]
            · rw [if_neg c3, if_neg c3, r (k - 12) (by omega)]
  · have hb := b j (by rw [a] at hj; split at hj <;> omega)
    have inj := hP.2.2.2.2
    have ne : (τ 11 0 j).toNat ≠ s := by
      intro e
      have a3 := a
      have hlast := b (τ 3 0 1 - 1).toNat (by rw [a]; split <;> omega)
      have r1 := hP.2.2.2.1
      have : τ 11 0 j = τ 11 0 (τ 3 0 1 - 1).toNat := by
        have q1 : 0 ≤ τ 11 0 j := by
          rw [hb]; split
          · have := r1 j (by rw [a] at hj; split at hj <;> omega); omega
          · split
            · have := r1 (j + 1) (by omega); omega
            · have := r1 0 (by omega); omega
        omega
      by_cases hlt : σ 3 0 1 < 4
      · rw [if_pos hlt] at hb a
        rw [if_pos hlt] at hlast
        have := inj j (by omega) (τ 3 0 1 - 1).toNat (by omega) (by omega)
        omega
      · rw [if_neg hlt] at hb a
        rw [if_neg hlt] at hlast
        rw [if_pos (by omega)] at hb
        rw [if_neg (by omega)] at hlast
        have := inj (j + 1) (by omega) 0 (by omega) (by omega)
        omega
    by_cases hlt : σ 3 0 1 < 4
    · rw [if_pos hlt] at hb a
      refine ⟨j, by rw [if_pos hlt], by omega, ?_, ?_⟩
      · rw [hb] at ne ⊢
        exact vS_c (fun k => f 1 _ k (by omega) (by omega) (by omega) (by omega))
      · rw [hb] at ne ⊢
        have r1 := hP.2.2.2.1 j (by omega)
        exact fun w hw => vV_c hP (by omega) hw (f9 _) (fun i x y d k hd => f d i k (by omega) (by omega) (by omega) (by omega))
    · rw [if_neg hlt] at hb a
      rw [if_pos (by omega)] at hb
      refine ⟨j + 1, by rw [if_neg hlt], by omega, ?_, ?_⟩
      · rw [hb] at ne ⊢
        exact vS_c (fun k => f 1 _ k (by omega) (by omega) (by omega) (by omega))
      · rw [hb] at ne ⊢
        have r1 := hP.2.2.2.1 (j + 1) (by omega)
        exact fun w hw => vV_c hP (by omega) hw (f9 _) (fun i x y d k hd => f d i k (by omega) (by omega) (by omega) (by omega))
/-- both have saved: the saved states agree again -/
theorem sv_new {σ τ σ' : Sto} (h : Cp σ) (hs : SavP σ τ 0) (hm : MSv σ σ') (e3 : σ' 3 0 1 = τ 3 0 1) (e11 : ∀ k, σ' 11 0 k = τ 11 0 k) (f1 : ∀ d, 2 ≤ d → d < 6 → ∀ k, σ' 1 d k = τ 1 d k ∧ σ' 9 d k = τ 9 d k) (fe : ∀ i, 48 ≤ i → i < 144 → ∀ c k : Nat, c = 0 ∨ c = 2 ∨ c = 10 → σ' c i k = τ c i k) : σ' 3 0 1 = σ' 8 0 3 ∧ ∀ j : Nat, (j : Int) < σ' 3 0 1 → SvC σ' j := by
  have hIτ := savp_ci h.1 hs
  obtain ⟨v0, v1, v2⟩ := savp_v h.1 hs
  have a := hs.1
  have n4 := h.1.2.2.2.2.1
  obtain ⟨p, p4, pm, pc, pcur, pold, p3⟩ := hm
  have ecnt := h.2.2.1.1
  have ep : τ 3 0 1 = p + 1 := by
    rw [a]
    by_cases q : σ 8 0 3 = 4
    · have := p3 q; rw [if_neg (by omega)]; omega
    · rw [if_neg q] at pc; rw [if_pos (by omega)]; omega
  have n24 := cp_n24 h
  have hV := cp_vok h
  refine ⟨by rw [e3, pm]; omega, fun j hj => ?_⟩
  rw [e3] at hj
  have r1 := hIτ.1.2.2.2.1 j (by omega)
  have vw : (∀ k, vS σ' (τ 11 0 j).toNat k = vS τ (τ 11 0 j).toNat k) ∧ ∀ w, w < 24 → ∀ k, vV σ' (τ 11 0 j).toNat w k = vV τ (τ 11 0 j).toNat w k := ⟨vS_c (fun k => (f1 _ (by omega) (by omega) k).1), fun w hw => vV_c hIτ.1 (by omega) hw (fun k => (f1 _ (by omega) (by omega) k).2) (fun i x y d k hd => fe i (by omega) (by omega) d k hd)⟩
  unfold SvC
  rw [e11]
  by_cases hl : (j : Int) = τ 3 0 1 - 1
  · have ej : j = p := by omega
    subst ej
    have hE := (v2 j hj).1 hl
    have e1 : ∀ k, k < 7 → sS σ' j k = mS σ k := fun k hk => pcur k (by omega)
    have e2 : ∀ w, w < nS (mS σ) → ∀ k, k < 19 → sV σ' j w k = mV σ w k := fun w hw k hk => pcur _ (by omega)
    have en : nS (sS σ' j) = nS (mS σ) := by unfold nS; rw [e1 5 (by omega)]
    refine ⟨eqw_tr (eqw_trans h.2.1.1 hE) e1 e2 (fun k _ => vw.1 k) (fun w hw k _ => vw.2 w (by omega) k), ?_⟩
    rw [en]
    exact dis_c h.2.1.2 (fun w hw => by have := (hV.2 w hw).1; omega) (fun w hw k hk => e2 w hw k (by omega))
  · obtain ⟨i, ei, hi, w1, w2⟩ := (v2 j hj).2 hl
    have hsv := h.2.2.1.2 i hi
    have hV2 := sv_vok h hi
    have n2 := vok_24 hV2
    have old : ∀ k, k < 463 → σ' 12 4 (463 * j + k) = σ 12 4 (463 * i + k) := by
      intro k hk
      rw [pold j k (by omega) hk]
      by_cases q : σ 8 0 3 = 4
      · rw [if_pos q, ei, if_neg (by omega)]
      · rw [if_neg q, ei, if_pos (by omega)]
    have e1 : ∀ k, k < 7 → sS σ' j k = sS σ i k := fun k hk => old k (by omega)
    have e2 : ∀ w, w < nS (sS σ i) → ∀ k, k < 19 → sV σ' j w k = sV σ i w k := fun w hw k hk => old _ (by omega)
    have en : nS (sS σ' j) = nS (sS σ i) := by unfold nS; rw [e1 5 (by omega)]
    refine ⟨eqw_tr hsv.1 e1 e2 (fun k _ => by rw [vw.1, w1]) (fun w hw k _ => by rw [vw.2 w (by omega), w2 w (by omega)]), ?_⟩
    rw [en]
    exact dis_c hsv.2 (fun w hw => by have := (hV2.2 w hw).1; omega) (fun w hw k hk => e2 w hw k (by omega))
