theorem txtN_u {h : Int → Int} {L : Int} {n n' : Nat} (a : TxtN h L n) (b : TxtN h L n') : n = n' := by
  obtain ⟨_, a1, a2⟩ := a
  obtain ⟨_, b1, b2⟩ := b
  apply Classical.byContradiction
  intro hne
  rcases (show n < n' ∨ n' < n by omega) with q | q
  · have := (b1 n q).1; omega
  · have := (a1 n' q).1; omega
theorem txtF_u {h : Int → Int} {L r r' : Int} (a : TxtF h L r) (b : TxtF h L r') : r = r' := by
  obtain ⟨n, _, a1, a2, a3, a4⟩ := a
  obtain ⟨n', _, b1, b2, b3, b4⟩ := b
  have : n = n' := by
    apply Classical.byContradiction
    intro hne
    rcases (show n < n' ∨ n' < n by omega) with q | q
    · exact a3 (b1 n q).2
    · exact b3 (a1 n' q).2
  subst this
  rw [a4, b4]
theorem txtNF {h : Int → Int} {L r : Int} {n : Nat} (a : TxtN h L n) (b : TxtF h L r) : False := by
  obtain ⟨_, a1, a2⟩ := a
  obtain ⟨n', _, b1, b2, b3, b4⟩ := b
  rcases (show n < n' ∨ n = n' ∨ n' < n by omega) with q | q | q
  · have := (b1 n q).1; omega
  · subst q; omega
  · exact b3 (a1 n' q).2
theorem itm_kn {h : Int → Int} {full kn : Prop} {p : Int} (hp : 0 ≤ p) (hi : itm h full kn p = -1) : ¬ kn := by
  intro hk
  unfold itm at hi
  by_cases hf : full
  · rw [pif_t hf] at hi; omega
  rw [pif_f hf] at hi
  have e : let0 h kn p ≠ -1 := by
    unfold let0
    by_cases c : rn isL h p 10 = 0 ∨ h (p + rn isL h p 10) ≠ 44
    · rw [pif_t c]; omega
    · rw [pif_f c, pif_t hk]; omega
  rw [pif_t e] at hi
  exact e hi
theorem txt_dis {h : Int → Int} {L : Int} {n : Nat} {V : Nat → Nat → Int} (hN : TxtN h L n) (hT : ∀ w, w < n → TxtV h V w) : DisV n V := by
  have key : ∀ o o', o < o' → o' < n → ¬ (V o 0 = V o' 0 ∧ ∀ k : Nat, (k : Int) < V o 0 → V o (1 + k) = V o' (1 + k)) := by
    intro o o' hlt ho' ⟨a, b⟩
    obtain ⟨c1, c2, -⟩ := hT o (by omega)
    obtain ⟨d1, d2, -⟩ := hT o' ho'
    have hi := (hN.2.1 o' ho').2
    refine itm_kn (ps_r o') hi ⟨o, hlt, by omega, fun j hj => ?_⟩
    have x := c2 j (by omega)
    have y := d2 j hj
    have z := b j (by omega)
    omega
  intro o o' ho ho' ⟨a, b⟩
  apply Classical.byContradiction
  intro hne
  rcases (show o < o' ∨ o' < o by omega) with q | q
  · exact key o o' q ho' ⟨a, b⟩
  · exact key o' o q ho ⟨a.symm, fun k hk => (b k (by omega)).symm⟩
theorem cp_parse {σ τ τ' σ1 σ' : Sto} {n n' : Nat} (h : Cp σ) (hA : ParA σ τ n) (hs : SavP τ τ' 0) (hc : CldCp τ' σ1 0 1) (hM : ParM σ1 σ' n') : Cp σ' ∧ n = n' := by
  have hτ := cp_u h hA.1
  have hIτ' := savp_ci hτ.1 hs
  obtain ⟨hU, aC, aS, a5, aK, aN, aW⟩ := hA
  have fU := hU.1
  -- the trial behind the save
  have sf : ∀ c i k : Nat, (c ≠ 1 ∨ i < 2) → ((c ≠ 2 ∧ c ≠ 10 ∧ c ≠ 0) ∨ i < 48 ∨ 144 ≤ i) → c ≠ 3 → c ≠ 11 → τ' c i k = τ c i k := by
    obtain ⟨a, b, g, s, s2, s6, se, sa, sb, f⟩ := hs
    exact fun c i k p q r t => f c i k (by omega) (by omega) (by omega) (by omega)
  have hC1 : ClOK τ' 1 := (fr_cl hU.2.1 (σ' := τ') (d := 1) (by omega) (fun k => sf 1 1 k (by omega) (by omega) (by omega) (by omega)) (fun k => sf 9 1 k (by omega) (by omega) (by omega) (by omega)) (fun i x y c k hc => sf c i k (by omega) (by omega) (by omega) (by omega))).1 aC
  have hS1 : SetOK τ' 1 := (fr_cl hU.2.1 (σ' := τ') (d := 1) (by omega) (fun k => sf 1 1 k (by omega) (by omega) (by omega) (by omega)) (fun k => sf 9 1 k (by omega) (by omega) (by omega) (by omega)) (fun i x y c k hc => sf c i k (by omega) (by omega) (by omega) (by omega))).2 aS
  have fc := hc.2.2.1
  have g : ∀ c i k : Nat, (c ≠ 1 ∨ i ≠ 0) → ((c ≠ 2 ∧ c ≠ 10 ∧ c ≠ 0) ∨ 24 ≤ i) → σ1 c i k = τ' c i k := fun c i k a b => fc c i k a (by omega)
  have hcl := cldcp_cl hC1 hc
  have hI1 : CI σ1 := ci_0 hIτ' (cldcp_phy hIτ'.1 hc) (boxp_g hc.2.2.2 hIτ'.2.1) hcl.1 (hcl.2.1 hS1) (by rw [g 4 0 5 (by omega) (by omega)]; exact hIτ'.2.2.2.2.2.2.2) (tx_congr (g 6 0 1 (by omega) (by omega)) (fun k => g 12 2 k (by omega) (by omega)) hIτ'.2.2.2.2.2.2.1) (by rw [g 3 0 1 (by omega) (by omega)]; have := hIτ'.2.2.2.2.1; omega) (fun k => g 11 0 k (by omega) (by omega)) (fun d a b k => ⟨g 1 d k (by omega) (by omega), g 9 d k (by omega) (by omega)⟩) (fun i a b c k hc => g c i k (by omega) (by omega))
  -- the model's slots are as they were
  have m1 : ∀ c i k : Nat, c = 8 ∨ (c = 12 ∧ 2 ≤ i) → σ1 c i k = τ c i k := fun c i k hc => by rw [g c i k (by omega) (by omega), sf c i k (by omega) (by omega) (by omega) (by omega)]
  have m0 : ∀ c i k : Nat, c = 8 ∨ (c = 12 ∧ 2 ≤ i) → σ1 c i k = σ c i k := fun c i k hc => by rw [m1 c i k hc, fU c i k (by omega) (by omega) (by omega) (by omega) (by omega) (by omega) (by omega)]
  have eS1 : mS σ1 = mS σ := funext fun k => m0 12 3 k (by omega)
  have eV1 : mV σ1 = mV σ := funext fun w => funext fun k => m0 12 3 _ (by omega)
  have ehr : hrm σ1 = hrc σ := by
    rw [← (cp_tx h).2]
    funext p; unfold hrm
    rw [m0 8 0 12 (by omega), m0 12 11 _ (by omega)]
  have eL : σ1 8 0 12 = σ 6 0 1 := by rw [m0 8 0 12 (by omega), h.2.2.2.1]
  obtain ⟨pN, p4, pS, pK, p5, pW, pF⟩ := hM
  rw [ehr, eL] at pN
  have enn := txtN_u aN pN
  subst enn
  rw [ehr, eS1, eV1] at pW
  refine ⟨?_, rfl⟩
  have n24 := pN.1
  have N24 := cp_n24 h
  have hVσ := cp_vok h
  have F : ∀ c i k : Nat, c ≠ 8 → (c ≠ 12 ∨ i < 3) → σ' c i k = σ1 c i k := fun c i k a b => pF c i k (by omega) (by omega)
  have hIf : CI σ' := ci_m hI1 F
  have ms : MSv τ σ' := by
    obtain ⟨p, x1, x2, x3, x4, x5, x6⟩ := pS
    rw [m1 8 0 3 (by omega)] at x3 x6
    refine ⟨p, x1, x2, x3, fun k hk => by rw [x4 k hk, m1 12 3 k (by omega)], fun j k hj hk => ?_, x6⟩
    rw [x5 j k hj hk, m1 8 0 3 (by omega), m1 12 4 _ (by omega), m1 12 4 _ (by omega)]
  -- the trial's words are the cloud's
  have en1 : cn_ τ' 1 = n := by
    have e : τ 1 1 1 = n := a5
    unfold cn_; rw [sf 1 1 1 (by omega) (by omega) (by omega) (by omega), e]; omega
  have vw := cld_view hc
  have t7 : ∀ k, vS τ' 1 k = vS τ 1 k := vS_c (fun k => sf 1 1 k (by omega) (by omega) (by omega) (by omega))
  have t19 : ∀ w, w < 24 → ∀ k, vV τ' 1 w k = vV τ 1 w k := fun w hw => vV_c hU.2.1 (by omega) hw (fun k => sf 9 1 k (by omega) (by omega) (by omega) (by omega)) (fun i x y d k hd => sf d i k (by omega) (by omega) (by omega) (by omega))
  have f7 : ∀ k, vS σ' 0 k = vS τ 1 k := fun k => by rw [vS_c (σ := σ1) (fun k => F 1 0 k (by omega) (by omega)) k, vw.1 k, t7 k]
  have e7 : ∀ k, k < 7 → mS σ' k = vS τ 1 k := fun k hk => by
    by_cases c : k = 5
    · subst c; rw [a5]; exact p5
    · rw [aK k hk c]
      have : mS σ' k = mS σ k := by rw [← eS1]; exact pK k hk c
      rw [this]; exact (h.2.1.1.1 k hk).symm
  have en2 : nS (mS σ') = n := by unfold nS; rw [e7 5 (by omega), a5]; omega
  -- letters, weights, kinds and places
  have words : ∀ w, w < n → ∀ k : Nat, (k = 0 ∨ (1 ≤ k ∧ k < 11 ∧ (k : Int) - 1 < mV σ' w 0) ∨ (11 ≤ k ∧ k < 19)) → vV τ 1 w k = mV σ' w k := by
    intro w hw k hk
    obtain ⟨⟨c1, c2, c3, c4, c5⟩, r, hr, r0, r1⟩ := aW w hw
    obtain ⟨⟨d1, d2, d3, d4, d5⟩, q, hq, q0, q1⟩ := pW w hw
    have ten := rn_le (P := isL) (h := hrc σ) 10 (ps (hrc σ) w)
    have lets : ∀ j : Nat, j < rn isL (hrc σ) (ps (hrc σ) w) 10 → vV τ 1 w (1 + j) = mV σ' w (1 + j) := fun j hj => by rw [c2 j hj, d2 j hj]
    rcases hk with e | ⟨e1, e2, e3⟩ | ⟨e1, e2⟩
    · subst e; rw [c1, d1]
    · have := lets (k - 1) (by omega)
      rw [show 1 + (k - 1) = k by omega] at this
      exact this
    · rcases (show k = 11 ∨ k = 12 ∨ k = 13 ∨ 14 ≤ k by omega) with e | e | e | e
      · subst e; rw [c3, d3]
      · subst e; rw [c4, d4]
      · subst e; rw [c5, d5]
      · -- the place
        have cN : cn_ σ 0 = nS (mS σ) := eqw_n h.2.1.1
        have same : ∀ o, o < nS (mS σ) → (SamV (vV σ 0) o (vV τ 1) w ↔ SamV (mV σ') w (mV σ) o) := by
          intro o ho
          have h10 := (hVσ.2 o ho).1
          have v0 := VEq_0 h.2.1.1.2 ho
          unfold SamV
          rw [v0, c1, d1]
          constructor
          · rintro ⟨a, b⟩
            refine ⟨a.symm, fun j hj => ?_⟩
            have := b j (by omega)
            rw [eqw_let h.2.1.1 ho (by omega) (by omega), lets j (by omega)] at this
            exact this.symm
          · rintro ⟨a, b⟩
            refine ⟨a.symm, fun j hj => ?_⟩
            rw [eqw_let h.2.1.1 ho hj (by omega), lets j (by omega)]
            exact (b j (by omega)).symm
        rw [cN] at hr
        rcases hr with ⟨a, b⟩ | ⟨o, ho, a, b, -⟩
        · rw [r0 a k e e2]
          rcases hq with ⟨a', b'⟩ | ⟨o', ho', a', b', -⟩
          · rw [q0 a' k e e2]
          · exact absurd ((same o' ho').mpr b') (b o' ho')
        · rw [r1 o a k e e2]
          have b2 := (same o ho).mp b
          rcases hq with ⟨a', b'⟩ | ⟨o', ho', a', b', -⟩
          · exact absurd b2 (b' o ho)
          · have : o = o' := by
              refine h.2.1.2 o o' ho ho' ?_
              obtain ⟨x1, x2⟩ := b2
              obtain ⟨y1, y2⟩ := b'
              exact ⟨by omega, fun j hj => by rw [← x2 j (by omega), y2 j (by omega)]⟩
            subst this
            rw [q1 o a' k e e2]
            exact eqw_k h.2.1.1 ho (by omega) e2
  refine ⟨hIf, ⟨⟨fun k hk => by rw [f7, e7 k hk], fun w hw k hk => ?_⟩, by rw [en2]; exact txt_dis pN (fun w hw => (pW w hw).1)⟩, sv_new hτ hs ms (by rw [F 3 0 1 (by omega) (by omega), g 3 0 1 (by omega) (by omega)]) (fun k => by rw [F 11 0 k (by omega) (by omega), g 11 0 k (by omega) (by omega)]) (fun d a b k => ⟨by rw [F 1 d k (by omega) (by omega), g 1 d k (by omega) (by omega)], by rw [F 9 d k (by omega) (by omega), g 9 d k (by omega) (by omega)]⟩) (fun i a b c k hc => by rw [F c i k (by omega) (by omega), g c i k (by omega) (by omega)]), ?_, fun k hk => ?_⟩
  · rw [en2] at hw
    have hw24 : w < 24 := by omega
    rw [vV_c (σ := σ1) hI1.1 (by omega) hw24 (fun k => F 9 0 k (by omega) (by omega)) (fun i _ _ d k hd => F d i k (by omega) (by omega)) k]
    have e0 := words w hw 0 (Or.inl rfl)
    rw [vw.2 w (by rw [en1]; exact hw) k (by rw [t19 w hw24 0, e0]; exact hk), t19 w hw24 k]
    exact words w hw k hk
  · rw [F 6 0 1 (by omega) (by omega), g 6 0 1 (by omega) (by omega), sf 6 0 1 (by omega) (by omega) (by omega) (by omega), fU 6 0 1 (by omega) (by omega) (by omega) (by omega) (by omega) (by omega) (by omega), pF 8 0 12 (by omega) (by omega), m0 8 0 12 (by omega)]
    exact h.2.2.2.1
  · rw [F 12 2 k (by omega) (by omega), m0 12 2 k (by omega), pF 12 11 k (by omega) (by omega), m0 12 11 k (by omega)]
    exact h.2.2.2.2 k hk
