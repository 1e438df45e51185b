/-- a change of the text alone -/
theorem cp_t {σ σ' : Sto} (h : Cp σ) (f : ∀ c i k : Nat, (c ≠ 12 ∨ (i ≠ 2 ∧ i ≠ 11)) → (c ≠ 6 ∨ i ≠ 0 ∨ k ≠ 1) → (c ≠ 8 ∨ i ≠ 0 ∨ (k ≠ 4 ∧ k ≠ 12)) → σ' c i k = σ c i k) (hT : TxOK σ') (hC : TxC σ') : Cp σ' := by
  have hI := h.1
  have g : ∀ c i k : Nat, c ≠ 12 → c ≠ 6 → c ≠ 8 → σ' c i k = σ c i k := fun c i k a b d => f c i k (by omega) (by omega) (by omega)
  have f0 : ∀ i k, σ' 0 i k = σ 0 i k := fun i k => g 0 i k (by omega) (by omega) (by omega)
  have fc := fr_cl hI.1 (σ' := σ') (d := 0) (by omega) (fun k => g 1 0 k (by omega) (by omega) (by omega)) (fun k => g 9 0 k (by omega) (by omega) (by omega)) (fun i _ _ c k hc => g c i k (by omega) (by omega) (by omega))
  have hI' : CI σ' := ci_0 hI (phy_congr (fun c i k hc => g c i k (by omega) (by omega) (by omega)) hI.1) (by intro e he h0; simp only [f0] at h0 ⊢; exact hI.2.1 e he h0) (fc.1 hI.2.2.1) (fc.2 hI.2.2.2.1) (by rw [g 4 0 5 (by omega) (by omega) (by omega)]; exact hI.2.2.2.2.2.2.2) hT (by rw [g 3 0 1 (by omega) (by omega) (by omega)]; have := hI.2.2.2.2.1; omega) (fun k => g 11 0 k (by omega) (by omega) (by omega)) (fun d _ _ k => ⟨g 1 d k (by omega) (by omega) (by omega), g 9 d k (by omega) (by omega) (by omega)⟩) (fun i _ _ c k hc => g c i k (by omega) (by omega) (by omega))
  have hP := h.1.1
  have n24 := cp_n24 h
  have eS : mS σ' = mS σ := funext fun k => f 12 3 k (by omega) (by omega) (by omega)
  have eV : mV σ' = mV σ := funext fun w => funext fun k => f 12 3 _ (by omega) (by omega) (by omega)
  have view : ∀ c, c < 6 → (∀ k, vS σ' c k = vS σ c k) ∧ ∀ w, w < 24 → ∀ k, vV σ' c w k = vV σ c w k := fun c hc => ⟨vS_c (fun k => g 1 c k (by omega) (by omega) (by omega)), fun w hw => vV_c hP hc hw (fun k => g 9 c k (by omega) (by omega) (by omega)) (fun i a b d k hd => g d i k (by omega) (by omega) (by omega))⟩
  refine ⟨hI', ⟨eqw_tr h.2.1.1 (fun k _ => by rw [eS]) (fun w _ k _ => by rw [eV]) (fun k _ => (view 0 (by omega)).1 k) (fun w hw k _ => (view 0 (by omega)).2 w (by omega) k), by rw [eS, eV]; exact h.2.1.2⟩, ⟨by rw [g 3 0 1 (by omega) (by omega) (by omega), f 8 0 3 (by omega) (by omega) (by omega)]; exact h.2.2.1.1, fun j hj => ?_⟩, hC⟩
  rw [g 3 0 1 (by omega) (by omega) (by omega)] at hj
  have hn := h.1.2.2.2.2.1
  have a := hP.2.2.2.1 j (by omega)
  have hs := h.2.2.1.2 j hj
  have n2 := vok_24 (sv_vok h hj)
  have vw := view (σ 11 0 j).toNat (by omega)
  unfold SvC
  rw [g 11 0 j (by omega) (by omega) (by omega)]
  have e1 : sS σ' j = sS σ j := funext fun k => f 12 4 _ (by omega) (by omega) (by omega)
  have e2 : sV σ' j = sV σ j := funext fun w => funext fun k => f 12 4 _ (by omega) (by omega) (by omega)
  rw [e1, e2]
  exact ⟨eqw_tr hs.1 (fun _ _ => rfl) (fun _ _ _ _ => rfl) (fun k _ => vw.1 k) (fun w hw k _ => vw.2 w (by omega) k), hs.2⟩
theorem cp_append {σ : Sto} {x : Int} (h : Cp σ) (hx : 0 ≤ x ∧ x ≤ 127) (hl : σ 6 0 1 < 200) : Cp (up3 (up3 (up3 (up3 (up3 σ 12 2 (σ 6 0 1).toNat x) 6 0 1 (σ 6 0 1 + 1)) 8 0 4 0) 12 11 (σ 8 0 12).toNat x) 8 0 12 (σ 8 0 12 + 1)) := by
  have hT := h.1.2.2.2.2.2.2.1
  obtain ⟨e, c⟩ := h.2.2.2
  have l0 := hT.1
  refine cp_t h (fun c i k a b d => by rw [up_k (by omega), up_k (by omega), up_k (by omega), up_k (by omega), up_k (by omega)]) ⟨?_, fun k hk => ?_⟩ ⟨?_, fun k hk => ?_⟩
  · rw [up_nc (by omega), up_nc (by omega), up_nc (by omega), up_e]; omega
  · rw [up_nc (by omega), up_nc (by omega), up_nc (by omega), up_e] at hk
    rw [up_nc (by omega), up_ni (by omega), up_nc (by omega), up_nc (by omega)]
    by_cases q : k = (σ 6 0 1).toNat
    · rw [q, up_e]; exact hx
    · rw [up_nj q]; exact hT.2 k (by omega)
  · rw [up_nc (by omega), up_nc (by omega), up_nc (by omega), up_e, up_e, e]
  · have a1 : ∀ y : Int, up3 (up3 (up3 (up3 (up3 σ 12 2 (σ 6 0 1).toNat x) 6 0 1 (σ 6 0 1 + 1)) 8 0 4 0) 12 11 (σ 8 0 12).toNat x) 8 0 12 y 12 2 k = up3 σ 12 2 (σ 6 0 1).toNat x 12 2 k := fun y => by rw [up_nc (by omega), up_ni (by omega), up_nc (by omega), up_nc (by omega)]
    have a2 : ∀ y : Int, up3 (up3 (up3 (up3 (up3 σ 12 2 (σ 6 0 1).toNat x) 6 0 1 (σ 6 0 1 + 1)) 8 0 4 0) 12 11 (σ 8 0 12).toNat x) 8 0 12 y 12 11 k = up3 (up3 (up3 (up3 σ 12 2 (σ 6 0 1).toNat x) 6 0 1 (σ 6 0 1 + 1)) 8 0 4 0) 12 11 (σ 8 0 12).toNat x 12 11 k := fun y => up_nc (by omega)
    rw [a1, a2, ← e]
    by_cases q : k = (σ 6 0 1).toNat
    · rw [q, up_e, up_e]
    · rw [up_nj q, up_nj q, up_nc (by omega), up_nc (by omega), up_ni (by omega)]; exact c k hk
theorem cp_clear {σ : Sto} (h : Cp σ) : Cp (up3 (up3 (up3 σ 6 0 1 0) 8 0 4 0) 8 0 12 0) := by
  obtain ⟨e, c⟩ := h.2.2.2
  refine cp_t h (fun c i k a b d => by rw [up_k (by omega), up_k (by omega), up_k (by omega)]) ⟨?_, fun k hk => ?_⟩ ⟨?_, fun k hk => ?_⟩
  · rw [up_nc (by omega), up_nc (by omega), up_e]; omega
  · rw [up_nc (by omega), up_nc (by omega), up_e] at hk; omega
  · rw [up_nc (by omega), up_nc (by omega), up_e, up_e]
  · rw [up_nc (by omega), up_nc (by omega), up_nc (by omega), up_nc (by omega), up_nc (by omega), up_nc (by omega)]; exact c k hk
/-- an attribute changed -/
def mdV (V : Nat → Nat → Int) (w k0 : Nat) (x : Int) : Nat → Nat → Int := fun o k => if o = w ∧ k = k0 then x else V o k
theorem eqw_md {S S' : Nat → Int} {V V' : Nat → Nat → Int} (h : EqW S V S' V') {w k0 : Nat} {x : Int} (h0 : k0 ≠ 0) : EqW S (mdV V w k0 x) S' (mdV V' w k0 x) := by
  refine ⟨h.1, fun o ho k hk => ?_⟩
  have e0 : mdV V w k0 x o 0 = V o 0 := by unfold mdV; rw [if_neg (by omega)]
  rw [e0] at hk
  unfold mdV
  split
  · rfl
  · exact h.2 o ho k hk
theorem vV_md {τ : Sto} {w q o k : Nat} {x : Int} (hP : Phy τ) (hw : w < 24) (ho : o < 24) (hq : 3 ≤ q ∧ q ≤ 5) : vV (up3 τ 2 (en τ 0 w) q x) 0 o k = mdV (vV τ 0) w (q + 8) x o k := by
  have ee : en (up3 τ 2 (en τ 0 w) q x) 0 o = en τ 0 o := by unfold en; rw [up_nc (by omega)]
  unfold mdV
  by_cases c : o = w ∧ k = q + 8
  · rw [if_pos c]
    unfold vV
    rw [ee, if_neg (by omega), if_neg (by omega), if_pos (by omega), c.1, show k - 8 = q by omega, up_e]
  · rw [if_neg c]
    unfold vV
    rw [ee]
    by_cases h0 : k = 0
    · rw [if_pos h0, if_pos h0, up_nj (by omega)]
    · rw [if_neg h0, if_neg h0]
      by_cases h1 : k < 11
      · rw [if_pos h1, if_pos h1, up_nc (by omega)]
      · rw [if_neg h1, if_neg h1]
        by_cases h2 : k < 14
        · rw [if_pos h2, if_pos h2]
          by_cases h3 : k = q + 8
          · have hne : en τ 0 o ≠ en τ 0 w := fun z => c ⟨en_inj hP (by omega) ho hw z, h3⟩
            rw [up_ni hne]
          · rw [up_nj (by omega)]
        · rw [if_neg h2, if_neg h2, up_nc (by omega), up_nc (by omega), up_nc (by omega)]
theorem mV_md {σ : Sto} {w k0 o k : Nat} {x : Int} (hk0 : k0 < 19) (hk : k < 19) : mV (up3 σ 12 3 (7 + 19 * w + k0) x) o k = mdV (mV σ) w k0 x o k := by
  unfold mdV mV
  by_cases c : o = w ∧ k = k0
  · rw [if_pos c, c.1, c.2, up_e]
  · rw [if_neg c, up_nj (by omega)]
/-- the invariant when an entry of the cloud gets another weight, direction or group -/
theorem ci_ent {τ : Sto} {w q : Nat} {x : Int} (h : CI τ) (hw : w < 24) (hq : q = 3 ∧ (1 ≤ x ∧ x ≤ 1000) ∨ q = 4 ∧ (0 ≤ x ∧ x ≤ 2) ∨ q = 5 ∧ (0 ≤ x ∧ x ≤ 3)) : CI (up3 τ 2 (en τ 0 w) q x) := by
  have hl := en_lt h.1 (show 0 < 6 by omega) hw
  have hC := h.2.2.1
  have g : ∀ c i k : Nat, c ≠ 2 → up3 τ 2 (en τ 0 w) q x c i k = τ c i k := fun c i k a => up_nc a
  have ee : ∀ o, en (up3 τ 2 (en τ 0 w) q x) 0 o = en τ 0 o := fun o => by unfold en; rw [up_nc (by omega)]
  have ecn : cn_ (up3 τ 2 (en τ 0 w) q x) 0 = cn_ τ 0 := by unfold cn_; rw [up_nc (by omega)]
  refine ci_0 h (phy_congr (fun c i k hc => g c i k (by omega)) h.1) (fun e he h0 => ?_) ⟨by rw [g 1 0 1 (by omega)]; exact hC.1, fun o ho => ?_⟩ ?_ (by rw [g 4 0 5 (by omega)]; exact h.2.2.2.2.2.2.2) (tx_congr (g 6 0 1 (by omega)) (fun k => g 12 2 k (by omega)) h.2.2.2.2.2.2.1) (by rw [g 3 0 1 (by omega)]; have := h.2.2.2.2.1; omega) (fun k => g 11 0 k (by omega)) (fun d _ _ k => ⟨g 1 d k (by omega), g 9 d k (by omega)⟩) (fun i a b c k hc => up_ni (by omega))
  · simp only [g 0 _ _ (show (0 : Nat) ≠ 2 by omega)] at h0 ⊢
    exact h.2.1 e he h0
  · rw [ecn] at ho
    have hE := hC.2 o ho
    rw [ee]
    unfold EntOK at hE ⊢
    simp only [g 0 _ _ (show (0 : Nat) ≠ 2 by omega), g 10 _ _ (show (10 : Nat) ≠ 2 by omega)]
    have g2 : ∀ k, k ≠ q → up3 τ 2 (en τ 0 w) q x 2 (en τ 0 o) k = τ 2 (en τ 0 o) k := fun k hk => up_nj hk
    have gq : up3 τ 2 (en τ 0 w) q x 2 (en τ 0 o) q = x ∨ up3 τ 2 (en τ 0 w) q x 2 (en τ 0 o) q = τ 2 (en τ 0 o) q := by
      by_cases c : en τ 0 o = en τ 0 w
      · left; rw [c, up_e]
      · right; exact up_ni c
    rw [g2 2 (by omega)]
    refine ⟨hE.1, hE.2.1, ?_, ?_, ?_, hE.2.2.2.2.2⟩
    · by_cases c : q = 3
      · subst c; rcases gq with z | z <;> rw [z] <;> omega
      · rw [g2 3 (by omega)]; exact hE.2.2.1
    · by_cases c : q = 4
      · subst c; rcases gq with z | z <;> rw [z] <;> omega
      · rw [g2 4 (by omega)]; exact hE.2.2.2.1
    · by_cases c : q = 5
      · subst c; rcases gq with z | z <;> rw [z] <;> omega
      · rw [g2 5 (by omega)]; exact hE.2.2.2.2.1
  · have := h.2.2.2.1
    unfold SetOK at this ⊢
    simp only [g 1 _ _ (show (1 : Nat) ≠ 2 by omega)]
    exact this
/-- what the class's saving leaves of the model, and the other way round -/
theorem savp_m {σ τ : Sto} (h : SavP σ τ 0) : ∀ c i k : Nat, c = 8 ∨ c = 12 → τ c i k = σ c i k := by
  obtain ⟨a, b, g, s, s2, s6, se, sa, sb, f⟩ := h
  exact fun c i k hc => f c i k (by omega) (by omega) (by omega) (by omega)
theorem cp_fin {σ τ σ1 ρ σ' : Sto} (h : Cp σ) (hs : SavP σ τ 0) (hm : MSav (up3 σ1 8 0 4 0) ρ) (hI1 : CI σ1) (m1 : ∀ c i k : Nat, c = 8 ∨ (c = 12 ∧ 2 ≤ i) → σ1 c i k = τ c i k) (f' : ∀ c i k : Nat, (c ≠ 12 ∨ i < 3 ∨ i = 4 ∨ 10 < i) → (c ≠ 8 ∨ i ≠ 0 ∨ k ≠ 10) → σ' c i k = ρ c i k) (s3 : σ1 3 0 1 = τ 3 0 1) (s11 : ∀ k, σ1 11 0 k = τ 11 0 k) (s1 : ∀ d, 2 ≤ d → d < 6 → ∀ k, σ1 1 d k = τ 1 d k ∧ σ1 9 d k = τ 9 d k) (se : ∀ i, 48 ≤ i → i < 144 → ∀ c k : Nat, c = 0 ∨ c = 2 ∨ c = 10 → σ1 c i k = τ c i k) (s6 : σ1 6 0 1 = τ 6 0 1) (hW : CpW σ') : Cp σ' := by
  obtain ⟨p, pa, pb, pc, pd, pe, pf, fm⟩ := id hm
  have g : ∀ c i k : Nat, c ≠ 8 → (c ≠ 12 ∨ i < 3 ∨ 10 < i) → σ' c i k = σ1 c i k := fun c i k a b => by rw [f' c i k (by omega) (by omega), fm c i k (by omega) (by omega), up_nc a]
  have sm := savp_m hs
  have hIf : CI σ' := ci_m hI1 (fun c i k a b => g c i k a (by omega))
  have hms : MSv σ σ' := msv_c hm (by rw [up_nj (by omega), m1 8 0 3 (by omega), sm 8 0 3 (by omega)]) (fun k _ => by rw [up_nc (by omega), m1 12 3 k (by omega), sm 12 3 k (by omega)]) (fun k => by rw [up_nc (by omega), m1 12 4 k (by omega), sm 12 4 k (by omega)]) (f' 8 0 3 (by omega) (by omega)) (fun k => f' 12 4 k (by omega) (by omega))
  refine ⟨hIf, hW, sv_new h hs hms (by rw [g 3 0 1 (by omega) (by omega)]; exact s3) (fun k => by rw [g 11 0 k (by omega) (by omega)]; exact s11 k) (fun d a b k => ⟨by rw [g 1 d k (by omega) (by omega)]; exact (s1 d a b k).1, by rw [g 9 d k (by omega) (by omega)]; exact (s1 d a b k).2⟩) (fun i a b c k hc => by rw [g c i k (by omega) (by omega)]; exact se i a b c k hc), ?_, fun k hk => ?_⟩
  · have t6 : τ 6 0 1 = σ 6 0 1 := by
      obtain ⟨a, b, g, s, s2, s6, se, sa, sb, f⟩ := hs
      exact f 6 0 1 (by omega) (by omega) (by omega) (by omega)
    rw [g 6 0 1 (by omega) (by omega), s6, t6, f' 8 0 12 (by omega) (by omega), fm 8 0 12 (by omega) (by omega), up_nj (by omega), m1 8 0 12 (by omega), sm 8 0 12 (by omega)]
    exact h.2.2.2.1
  · rw [g 12 2 k (by omega) (by omega), m1 12 2 k (by omega), sm 12 2 k (by omega), g 12 11 k (by omega) (by omega), m1 12 11 k (by omega), sm 12 11 k (by omega)]
    exact h.2.2.2.2 k hk
theorem cp_sm {σ τ σ1 ρ : Sto} (hs : SavP σ τ 0) (hm : MSav (up3 σ1 8 0 4 0) ρ) (m1 : ∀ c i k : Nat, c = 8 ∨ (c = 12 ∧ 2 ≤ i) → σ1 c i k = τ c i k) : mS ρ = mS σ ∧ mV ρ = mV σ := by
  have e := msav_v hm
  have sm := savp_m hs
  refine ⟨by rw [e.1]; funext k; show up3 σ1 8 0 4 0 12 3 k = σ 12 3 k; rw [up_nc (by omega), m1 12 3 k (by omega), sm 12 3 k (by omega)], by rw [e.2]; funext w k; show up3 σ1 8 0 4 0 12 3 _ = σ 12 3 _; rw [up_nc (by omega), m1 12 3 _ (by omega), sm 12 3 _ (by omega)]⟩
theorem cp_weight {σ τ ρ : Sto} {w x : Int} (h : Cp σ) (hw : 0 ≤ w ∧ w < σ 1 0 1) (hx : 1 ≤ x ∧ x ≤ 1000) (hs : SavP σ τ 0) (hm : MSav (up3 (up3 τ 2 (en σ 0 w.toNat) 3 x) 8 0 4 0) ρ) : Cp (up3 ρ 12 3 (7 + 19 * w + 11).toNat x) := by
  have hIτ := savp_ci h.1 hs
  have h0 := savp_0 h.1.1 hs
  have n24 := h.1.2.2.1.1.2
  have ee : en σ 0 w.toNat = en τ 0 w.toNat := by unfold en; rw [h0.2.1]
  have v := savp_v h.1 hs
  rw [ee] at hm
  have em := cp_sm (σ1 := up3 τ 2 (en τ 0 w.toNat) 3 x) hs hm (fun c i k hc => up_nc (by omega))
  have hl := en_lt hIτ.1 (show 0 < 6 by omega) (show w.toNat < 24 by omega)
  refine cp_fin h hs hm (ci_ent hIτ (show w.toNat < 24 by omega) (Or.inl ⟨rfl, hx⟩)) (fun c i k hc => up_nc (by omega)) (fun c i k hc _ => up_k (by omega)) (up_nc (by omega)) (fun k => up_nc (by omega)) (fun d _ _ k => ⟨up_nc (by omega), up_nc (by omega)⟩) (fun i a b c k hc => up_ni (by omega)) (up_nc (by omega)) ?_
  obtain ⟨ρ2, hρ2⟩ : ∃ ρ2, ρ2 = up3 ρ 12 3 (7 + 19 * w + 11).toNat x := ⟨_, rfl⟩
  have ei : (7 + 19 * w + 11).toNat = 7 + 19 * w.toNat + 11 := by omega
  rw [ei] at hρ2 ⊢
  have hV := cp_vok h
  have m24 := cp_n24 h
  have fm : ∀ c i k : Nat, c ≠ 8 → c ≠ 12 → up3 ρ 12 3 (7 + 19 * w.toNat + 11) x c i k = up3 τ 2 (en τ 0 w.toNat) 3 x c i k := fun c i k a b => by
    obtain ⟨p, _, _, _, _, _, _, f⟩ := hm
    rw [up_nc b, f c i k (by omega) (by omega), up_nc a]
  have eS : ∀ k, k < 7 → mS (up3 ρ 12 3 (7 + 19 * w.toNat + 11) x) k = mS σ k := fun k hk => by
    show up3 ρ 12 3 _ x 12 3 k = _
    rw [up_nj (by omega)]; exact congrFun em.1 k
  have eV : ∀ o, o < nS (mS σ) → ∀ k, k < 19 → mV (up3 ρ 12 3 (7 + 19 * w.toNat + 11) x) o k = mdV (mV σ) w.toNat 11 x o k := fun o ho k hk => by
    rw [mV_md (by omega) hk]; unfold mdV; rw [em.2]
  have en2 : nS (mS (up3 ρ 12 3 (7 + 19 * w.toNat + 11) x)) = nS (mS σ) := by unfold nS; rw [eS 5 (by omega)]
  refine ⟨eqw_tr (eqw_md (w := w.toNat) (k0 := 11) (x := x) h.2.1.1 (by omega)) eS eV (fun k _ => ?_) (fun o ho k _ => ?_), ?_⟩
  · rw [vS_c (σ := τ) (fun k => by rw [fm 1 0 k (by omega) (by omega), up_nc (by omega)])]; exact v.1 k
  · have ho24 : o < 24 := by omega
    have e1 : vV (up3 ρ 12 3 (7 + 19 * w.toNat + 11) x) 0 o k = vV (up3 τ 2 (en τ 0 w.toNat) 3 x) 0 o k := vV_c (ci_ent hIτ (show w.toNat < 24 by omega) (Or.inl ⟨rfl, hx⟩)).1 (by omega) ho24 (fun k => fm 9 0 k (by omega) (by omega)) (fun i _ _ d k hd => fm d i k (by omega) (by omega)) k
    rw [e1, vV_md hIτ.1 (by omega) ho24 (by omega)]
    unfold mdV
    rw [v.2.1 o ho24 k]
  · rw [en2]
    exact dis_c h.2.1.2 (fun o ho => by have := (hV.2 o ho).1; omega) (fun o ho k hk => by rw [eV o ho k (by omega)]; unfold mdV; rw [if_neg (by omega)])
theorem cp_kind {σ τ ρ : Sto} {w x y : Int} (h : Cp σ) (hw : 0 ≤ w ∧ w < σ 1 0 1) (hx : (0 ≤ x ∧ x ≤ 2) ∧ 0 ≤ y ∧ y ≤ 3) (hs : SavP σ τ 0) (hm : MSav (up3 (up3 (up3 τ 2 (en σ 0 w.toNat) 4 x) 2 (en σ 0 w.toNat) 5 y) 8 0 4 0) ρ) : Cp (up3 (up3 ρ 12 3 (7 + 19 * w + 12).toNat x) 12 3 (7 + 19 * w + 13).toNat y) := by
  have hIτ := savp_ci h.1 hs
  have h0 := savp_0 h.1.1 hs
  have n24 := h.1.2.2.1.1.2
  have w24 : w.toNat < 24 := by omega
  have ee : en σ 0 w.toNat = en τ 0 w.toNat := by unfold en; rw [h0.2.1]
  have v := savp_v h.1 hs
  rw [ee] at hm
  have hI1 := ci_ent (x := x) hIτ w24 (Or.inr (Or.inl ⟨rfl, hx.1⟩))
  have e1n : en (up3 τ 2 (en τ 0 w.toNat) 4 x) 0 w.toNat = en τ 0 w.toNat := by
    show (up3 τ 2 (en τ 0 w.toNat) 4 x 9 0 w.toNat).toNat = _
    rw [up_nc (by omega)]; rfl
  have hI2 := ci_ent (x := y) hI1 w24 (Or.inr (Or.inr ⟨rfl, hx.2⟩))
  rw [e1n] at hI2
  obtain ⟨σ1, hσ1⟩ : ∃ σ1, σ1 = up3 (up3 τ 2 (en τ 0 w.toNat) 4 x) 2 (en τ 0 w.toNat) 5 y := ⟨_, rfl⟩
  rw [← hσ1] at hm hI2
  have g1 : ∀ c i k : Nat, (c ≠ 2 ∨ i ≠ en τ 0 w.toNat) → σ1 c i k = τ c i k := fun c i k hc => by rw [hσ1, up_k (by omega), up_k (by omega)]
  have em := cp_sm (σ1 := σ1) hs hm (fun c i k hc => g1 c i k (by omega))
  have hl := en_lt hIτ.1 (show 0 < 6 by omega) w24
  have ei : (7 + 19 * w + 12).toNat = 7 + 19 * w.toNat + 12 := by omega
  have ej : (7 + 19 * w + 13).toNat = 7 + 19 * w.toNat + 13 := by omega
  rw [ei, ej]
  obtain ⟨ρ2, hρ2⟩ : ∃ ρ2, ρ2 = up3 (up3 ρ 12 3 (7 + 19 * w.toNat + 12) x) 12 3 (7 + 19 * w.toNat + 13) y := ⟨_, rfl⟩
  rw [← hρ2]
  have f2 : ∀ c i k : Nat, (c ≠ 12 ∨ i ≠ 3) → ρ2 c i k = ρ c i k := fun c i k hc => by rw [hρ2, up_k (by omega), up_k (by omega)]
  refine cp_fin h hs hm hI2 (fun c i k hc => g1 c i k (by omega)) (fun c i k hc _ => f2 c i k (by omega)) (g1 3 0 1 (by omega)) (fun k => g1 11 0 k (by omega)) (fun d _ _ k => ⟨g1 1 d k (by omega), g1 9 d k (by omega)⟩) (fun i a b c k hc => g1 c i k (by omega)) (g1 6 0 1 (by omega)) ?_
  have hV := cp_vok h
  have m24 := cp_n24 h
  have fm : ∀ c i k : Nat, c ≠ 8 → c ≠ 12 → ρ2 c i k = σ1 c i k := fun c i k a b => by
    obtain ⟨p, _, _, _, _, _, _, f⟩ := hm
    rw [f2 c i k (by omega), f c i k (by omega) (by omega), up_nc a]
  have eS : ∀ k, k < 7 → mS ρ2 k = mS σ k := fun k hk => by
    show ρ2 12 3 k = _
    rw [hρ2, up_nj (by omega), up_nj (by omega)]; exact congrFun em.1 k
  have eV : ∀ o, o < nS (mS σ) → ∀ k, k < 19 → mV ρ2 o k = mdV (mdV (mV σ) w.toNat 12 x) w.toNat 13 y o k := fun o ho k hk => by
    rw [hρ2, mV_md (by omega) hk]
    unfold mdV
    split
    · rfl
    · rw [mV_md (by omega) hk]; unfold mdV; rw [em.2]
  have en2 : nS (mS ρ2) = nS (mS σ) := by unfold nS; rw [eS 5 (by omega)]
  refine ⟨eqw_tr (eqw_md (w := w.toNat) (k0 := 13) (x := y) (eqw_md (w := w.toNat) (k0 := 12) (x := x) h.2.1.1 (by omega)) (by omega)) eS eV (fun k _ => ?_) (fun o ho k _ => ?_), ?_⟩
  · rw [vS_c (σ := τ) (fun k => by rw [fm 1 0 k (by omega) (by omega), g1 1 0 k (by omega)])]; exact v.1 k
  · have ho24 : o < 24 := by omega
    have e1 : vV ρ2 0 o k = vV σ1 0 o k := vV_c hI2.1 (by omega) ho24 (fun k => fm 9 0 k (by omega) (by omega)) (fun i _ _ d k hd => fm d i k (by omega) (by omega)) k
    have e2 : vV σ1 0 o k = mdV (vV (up3 τ 2 (en τ 0 w.toNat) 4 x) 0) w.toNat 13 y o k := by
      rw [hσ1]
      have := vV_md (w := w.toNat) (q := 5) (o := o) (k := k) (x := y) hI1.1 w24 ho24 (by omega)
      rw [e1n] at this
      exact this
    rw [e1, e2]
    unfold mdV
    split
    · rfl
    · rw [vV_md hIτ.1 w24 ho24 (by omega)]
      unfold mdV
      rw [v.2.1 o ho24 k]
  · rw [en2]
    exact dis_c h.2.1.2 (fun o ho => by have := (hV.2 o ho).1; omega) (fun o ho k hk => by rw [eV o ho k (by omega)]; unfold mdV; rw [if_neg (by omega), if_neg (by omega)])
