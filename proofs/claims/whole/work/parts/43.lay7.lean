def FrA (σ τ : Sto) (c : Nat) : Prop := ∀ c' i k : Nat, (c' ≠ 0 ∨ (i ≠ 144 ∧ (i < 24 * c ∨ 24 * c + 24 ≤ i))) → (c' ≠ 4 ∨ i ≠ 0 ∨ (k ≠ 4 ∧ k ≠ 5)) → (c' ≠ 5 ∨ i ≠ 0) → (c' ≠ 12 ∨ (i ≠ 0 ∧ i ≠ 1)) → (c' ≠ 1 ∨ i ≠ c ∨ k ≠ 7) → τ c' i k = σ c' i k
/-- the box of w in τ is what z says -/
def Mat (τ : Sto) (e : Nat) (z : Nat → Int) : Prop := (0 < z 2 → τ 0 e 0 = 1 ∧ τ 0 e 2 = z 0 ∧ τ 0 e 3 = z 1 ∧ τ 0 e 4 = z 2 ∧ τ 0 e 5 = z 3 ∧ τ 0 e 1 = z 4) ∧ (¬ 0 < z 2 → τ 0 e 0 = 0 ∧ ∀ k, z k = 0) ∧ ∀ k, 5 ≤ k → z k = 0
def BxG (σ : Sto) : Prop := ∀ e, e < 144 → σ 0 e 0 = 1 → 0 ≤ σ 0 e 2 ∧ σ 0 e 2 + σ 0 e 4 ≤ 80 ∧ 0 ≤ σ 0 e 3 ∧ σ 0 e 3 + σ 0 e 5 ≤ 50 ∧ 1 ≤ σ 0 e 4 ∧ 1 ≤ σ 0 e 5
def LInv (σ : Sto) (c : Nat) (kp : Int) (r : Nat) (zs : Nat → Nat → Nat → Int) (τ : Sto) : Prop :=
  RunZ (vS σ c) (vV σ c) kp r zs ∧ FrA σ τ c ∧ Phy τ ∧ ClOK τ c ∧ (0 ≤ τ 4 0 5 ∧ τ 4 0 5 ≤ 24) ∧ τ 0 144 0 = 1 ∧
  (∀ w, w < cn_ σ c → rkV (vS σ c) (vV σ c) w < r → Mat τ (en σ c w) (zs r w)) ∧
  (∀ w, w < cn_ σ c → (r : Int) ≤ rkV (vS σ c) (vV σ c) w → (∀ k, zs r w k = 0) ∧ ∀ k, τ 0 (en σ c w) k = σ 0 (en σ c w) k) ∧
  (0 ≤ τ 4 0 4 ∧ τ 4 0 4 ≤ r) ∧ τ 4 0 4 = ct (fun w => 0 < zs r w 2) (cn_ σ c) ∧
  (∀ i : Nat, (i : Int) < τ 4 0 4 → 0 ≤ τ 12 1 i ∧ (τ 12 1 i).toNat < cn_ σ c ∧ 0 < zs r (τ 12 1 i).toNat 2) ∧
  (∀ i j : Nat, i < j → (j : Int) < τ 4 0 4 → rkV (vS σ c) (vV σ c) (τ 12 1 i).toNat < rkV (vS σ c) (vV σ c) (τ 12 1 j).toNat) ∧
  (∀ w, w < cn_ σ c → 0 < zs r w 2 → ∃ i : Nat, (i : Int) < τ 4 0 4 ∧ τ 12 1 i = w) ∧
  τ 1 c 7 = ct (fun w => rkV (vS σ c) (vV σ c) w < r ∧ MovZ (vV σ c) (zs r) w) (cn_ σ c) ∧
  (∀ w : Nat, w < cn_ σ c → τ 12 0 (rkV (vS σ c) (vV σ c) w).toNat = (w : Int)) ∧ BxG τ
theorem nS_c {σ : Sto} {c : Nat} : nS (vS σ c) = cn_ σ c := rfl
theorem wtV_c {σ : Sto} {c : Nat} : wtV (vV σ c) = wtv σ c := rfl
theorem rkV_c {σ : Sto} {c : Nat} {w : Nat} : rkV (vS σ c) (vV σ c) w = rk (cn_ σ c) (wtv σ c) w := rfl
theorem szV_c {σ : Sto} {c : Nat} {w : Nat} : szV (vS σ c) (vV σ c) w = szw σ c (en σ c w) := rfl
theorem fra_en {σ τ : Sto} {c : Nat} (h : FrA σ τ c) (c' w : Nat) : en τ c' w = en σ c' w := by unfold en; rw [h 9 c' w (by omega) (by omega) (by omega) (by omega) (by omega)]
theorem fra_cn {σ τ : Sto} {c : Nat} (h : FrA σ τ c) (c' : Nat) : cn_ τ c' = cn_ σ c' := by unfold cn_; rw [h 1 c' 1 (by omega) (by omega) (by omega) (by omega) (by omega)]
theorem fra_wt {σ τ : Sto} {c : Nat} (h : FrA σ τ c) (c' : Nat) : wtv τ c' = wtv σ c' := by funext w; unfold wtv; rw [fra_en h, h 2 _ 3 (by omega) (by omega) (by omega) (by omega) (by omega)]
theorem fra_sz {σ τ : Sto} {c : Nat} (h : FrA σ τ c) (c' e : Nat) : szw τ c' e = szw σ c' e := by
  unfold szw; rw [fra_cn h, fra_wt h, h 1 c' 6 (by omega) (by omega) (by omega) (by omega) (by omega), h 2 e 3 (by omega) (by omega) (by omega) (by omega) (by omega)]
theorem rkV_r {σ : Sto} {c w : Nat} (hw : w < cn_ σ c) : 0 ≤ rkV (vS σ c) (vV σ c) w ∧ rkV (vS σ c) (vV σ c) w < cn_ σ c := rk_r (wt := wtv σ c) hw
theorem linv_pl {σ τ : Sto} {c r : Nat} {kp : Int} {zs : Nat → Nat → Nat → Int} (h : LInv σ c kp r zs τ) {i : Nat} (hi : (i : Int) < τ 4 0 4) : ∃ o, o < cn_ σ c ∧ (o : Int) = τ 12 1 i ∧ 0 < zs r o 2 ∧ rkV (vS σ c) (vV σ c) o < r ∧ pb τ c i = en σ c o ∧ Mat τ (en σ c o) (zs r o) := by
  obtain ⟨hrun, hfr, hP, hC, hm, h144, hmat, hzero, hpc, hpct, hpl, hord, hsur, hmv, hor, hbg⟩ := h
  obtain ⟨a, b, d⟩ := hpl i hi
  have hr : rkV (vS σ c) (vV σ c) (τ 12 1 i).toNat < r := by
    apply Classical.byContradiction
    intro hn
    have := (hzero _ b (by omega)).1 2
    omega
  refine ⟨(τ 12 1 i).toNat, b, by omega, d, hr, ?_, hmat _ b hr⟩
  unfold pb
  rw [fra_en hfr]
theorem linv_lst {σ τ : Sto} {c r : Nat} {kp : Int} {zs : Nat → Nat → Nat → Int} (hS : SetOK σ c) (hr : r ≤ cn_ σ c) (h : LInv σ c kp r zs τ) (n24 : cn_ σ c ≤ 24) : LS2 τ c := by
  have h' := h
  obtain ⟨hrun, hfr, hP, hC, hm, h144, hmat, hzero, hpc, hpct, hpl, hord, hsur, hmv, hor, hbg⟩ := h
  have f1 : ∀ k, k ≠ 7 → τ 1 c k = σ 1 c k := fun k hk => hfr 1 c k (by omega) (by omega) (by omega) (by omega) (by omega)
  refine ⟨⟨hP, hC, ?_, by omega, fun i hi => ?_, hm⟩, fun i hi => ?_⟩
  · obtain ⟨a, b, d, e, g, -⟩ := hS
    unfold SetOK
    rw [f1 2 (by omega), f1 3 (by omega), f1 4 (by omega), f1 5 (by omega), f1 6 (by omega)]
    refine ⟨a, b, d, e, g, ?_⟩
    rw [hmv]
    have := ct_r (P := fun w => rkV (vS σ c) (vV σ c) w < r ∧ MovZ (vV σ c) (zs r) w) (cn_ σ c)
    omega
  · have a := hpl i hi
    have b : cn_ τ c = cn_ σ c := fra_cn hfr c
    have e : σ 1 c 1 = τ 1 c 1 := (f1 1 (by omega)).symm
    refine ⟨a.1, ?_⟩
    unfold cn_ at a
    omega
  · obtain ⟨o, ho, -, hz, -, hp, hM⟩ := linv_pl h' hi
    rw [hp]
    exact (hM.1 hz).1
theorem linv_pos {σ τ : Sto} {c r : Nat} {kp : Int} {zs : Nat → Nat → Nat → Int} (h : LInv σ c kp r zs τ) : PosAt τ c = PosZ (vS σ c) (zs r) := by
  have h' := h
  obtain ⟨hrun, hfr, hP, hC, hm, h144, hmat, hzero, hpc, hpct, hpl, hord, hsur, hmv, hor, hbg⟩ := h
  have f1 : ∀ k, k ≠ 7 → τ 1 c k = σ 1 c k := fun k hk => hfr 1 c k (by omega) (by omega) (by omega) (by omega) (by omega)
  funext l t w k
  unfold PosAt PosZ
  rw [f1 2 (by omega), f1 3 (by omega), f1 4 (by omega)]
  apply propext
  refine and_congr_right fun _ => and_congr_right fun _ => and_congr_right fun _ => and_congr_right fun _ => ⟨fun g o ho hz => ?_, fun g i hi => ?_⟩
  · obtain ⟨i, hi, e⟩ := hsur o ho hz
    obtain ⟨o', ho', e', hz', hr', hp, hM⟩ := linv_pl h' hi
    have eo : o' = o := by omega
    subst eo
    have q := g i hi
    obtain ⟨m0, m1, m2, m3, m4, m5⟩ := hM.1 hz'
    rw [hp, m1, m2, m3, m4] at q
    exact q
  · obtain ⟨o, ho, e, hz, hr', hp, hM⟩ := linv_pl h' hi
    obtain ⟨m0, m1, m2, m3, m4, m5⟩ := hM.1 hz
    rw [hp, m1, m2, m3, m4]
    exact g o ho hz
theorem linv_start {σ τ : Sto} {c r : Nat} {kp : Int} {zs : Nat → Nat → Nat → Int} (h : LInv σ c kp r zs τ) {g x y : Int} (hs : StartAt τ c g x y) : StartZ (vS σ c) (vV σ c) (zs r) g x y := by
  have h' := h
  obtain ⟨hrun, hfr, hP, hC, hm, h144, hmat, hzero, hpc, hpct, hpl, hord, hsur, hmv, hor, hbg⟩ := h
  have f1 : ∀ k, k ≠ 7 → τ 1 c k = σ 1 c k := fun k hk => hfr 1 c k (by omega) (by omega) (by omega) (by omega) (by omega)
  have f2 : ∀ e k, τ 2 e k = σ 2 e k := fun e k => hfr 2 e k (by omega) (by omega) (by omega) (by omega) (by omega)
  have v13 : ∀ o, vV σ c o 13 = σ 2 (en σ c o) 5 := fun o => rfl
  rcases hs with ⟨i, hi, hg, hfirst, hx, hy⟩ | ⟨hn, hx, hy⟩
  · obtain ⟨o, ho, e, hz, hr', hp, hM⟩ := linv_pl h' hi
    obtain ⟨m0, m1, m2, m3, m4, m5⟩ := hM.1 hz
    rw [hp, m1, m3] at hx
    rw [hp, m2, m4] at hy
    rw [hp, f2] at hg
    refine Or.inl ⟨o, ho, hz, hg, fun o' ho' hz' hg' => ?_, hx, hy⟩
    obtain ⟨j, hj, e'⟩ := hsur o' ho' hz'
    by_cases q : o' = o
    · exact Or.inl q
    · right
      apply Classical.byContradiction
      intro hnb
      have hb : rkB (wtV (vV σ c)) o o' := by unfold rkB at hnb ⊢; omega
      have lt1 : rkV (vS σ c) (vV σ c) o' < rkV (vS σ c) (vV σ c) o := rkB_lt ho' hb
      rcases (show j < i ∨ j = i ∨ i < j by omega) with a | a | a
      · obtain ⟨o2, ho2, e2, hz2, hr2, hp2, hM2⟩ := linv_pl h' hj
        have : o2 = o' := by omega
        subst this
        have := hfirst j a
        rw [hp2, f2] at this
        exact this hg'
      · subst a; omega
      · have := hord i j a hj
        rw [← e, e'] at this
        simp only [Int.toNat_natCast] at this
        omega
  · refine Or.inr ⟨fun o ho hz => ?_, ?_, ?_⟩
    · obtain ⟨j, hj, e'⟩ := hsur o ho hz
      obtain ⟨o2, ho2, e2, hz2, hr2, hp2, hM2⟩ := linv_pl h' hj
      have : o2 = o := by omega
      subst this
      have := hn j hj
      rw [hp2, f2] at this
      exact this
    · rw [hx, f1 2 (by omega)]; rfl
    · rw [hy, f1 3 (by omega)]; rfl
theorem ent_there {σ : Sto} {c w : Nat} (hE : EntOK σ (en σ c w)) (hb : bitOK (σ 0 (en σ c w) 0)) : (0 < vV σ c w 16 ↔ σ 0 (en σ c w) 0 = 1) := by
  unfold bitOK at hb
  rcases hb with h | h
  · simp [vV, h]
  · have := hE.2.2.2.2.2 h
    have e : vV σ c w 16 = σ 0 (en σ c w) 4 := by simp [vV, h]
    rw [e]
    exact ⟨fun _ => h, fun _ => by omega⟩
theorem vV_box {σ : Sto} {c w : Nat} (h : σ 0 (en σ c w) 0 = 1) : vV σ c w 14 = σ 0 (en σ c w) 2 ∧ vV σ c w 15 = σ 0 (en σ c w) 3 ∧ vV σ c w 16 = σ 0 (en σ c w) 4 ∧ vV σ c w 17 = σ 0 (en σ c w) 5 ∧ vV σ c w 18 = σ 0 (en σ c w) 1 := by
  simp [vV, h]
theorem linv_cho {σ τ : Sto} {c r w : Nat} {kp f x y u : Int} {zs : Nat → Nat → Nat → Int} (hP : Phy σ) (hC : ClOK σ c) (hc : c < 6) (hw : w < cn_ σ c) (hr : rkV (vS σ c) (vV σ c) w = r) (h : LInv σ c kp r zs τ) (hch : ChoR τ c (en τ c w) (szw τ c (en τ c w)) kp f x y u) : ChoZ (vS σ c) (vV σ c) (zs r) w kp f x y u := by
  have h' := h
  obtain ⟨hrun, hfr, -, -, hm, h144, hmat, hzero, hpc, hpct, hpl, hord, hsur, hmv, hor, hbg⟩ := h
  have f2 : ∀ e k, τ 2 e k = σ 2 e k := fun e k => hfr 2 e k (by omega) (by omega) (by omega) (by omega) (by omega)
  have f0 := (hzero w hw (by omega)).2
  have f1 : τ 1 c 5 = σ 1 c 5 := hfr 1 c 5 (by omega) (by omega) (by omega) (by omega) (by omega)
  have he := (en_lt hP hc (show w < 24 by have := hC.1; unfold cn_ at hw; omega)).1
  have ht := ent_there (hC.2 w hw) (hP.1 _ (show en σ c w < 145 by omega)).2.1
  have stay : StayP τ c (en τ c w) (szw τ c (en τ c w)) ↔ StayZ (vS σ c) (vV σ c) (zs r) w := by
    unfold StayP StayZ
    rw [fra_en hfr, fra_sz hfr, linv_pos h', f0, f0, f0, f0, f0, f0, f2, f2, ht, szV_c]
    constructor
    · rintro ⟨a, b⟩
      obtain ⟨v1, v2, v3, v4, v5⟩ := vV_box a
      rw [v1, v2, v3, v4, v5]
      exact ⟨a, b⟩
    · rintro ⟨a, b⟩
      obtain ⟨v1, v2, v3, v4, v5⟩ := vV_box a
      rw [v1, v2, v3, v4, v5] at b
      exact ⟨a, b⟩
  rcases hch with ⟨a, b, d, e, g, i⟩ | ⟨a, x0, y0, b, d⟩
  · obtain ⟨v1, v2, v3, v4, v5⟩ := vV_box (σ := σ) (c := c) (w := w) (by have := b.1; rw [fra_en hfr, f0] at this; exact this)
    rw [fra_en hfr, f0, f0] at e g
    rw [fra_en hfr, f0] at i
    exact Or.inl ⟨a, stay.mp b, d, by rw [v1, v3]; exact e, by rw [v2, v4]; exact g, by rw [v5]; exact i⟩
  · refine Or.inr ⟨fun z => a ⟨z.1, stay.mpr z.2⟩, x0, y0, ?_, ?_⟩
    · have := linv_start h' b
      rw [fra_en hfr, f2] at this
      exact this
    · rw [fra_en hfr, fra_sz hfr, linv_pos h', f2, f2, f1] at d
      exact d
