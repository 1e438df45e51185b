theorem en_inj {σ : Sto} {c w o : Nat} (hP : Phy σ) (hc : c < 6) (hw : w < 24) (ho : o < 24) (h : en σ c w = en σ c o) : w = o := by
  have a := hP.2.1 c hc w hw
  have b := hP.2.1 c hc o ho
  refine hP.2.2.1 c hc w hw o ho ?_
  unfold en at h
  omega
theorem cho_try {σ : Sto} {c e : Nat} {s kp f x y u : Int} (h : ChoR σ c e s kp f x y u) (hf : f = 1) : TryB (PosAt σ c) (σ 2 e 4) (σ 2 e 2) s x y u := by
  rcases h with ⟨a, b, d, e, g, i⟩ | ⟨a, x0, y0, b, d⟩
  · rw [e, g, i]; exact b.2
  · rcases d with ⟨_, t, _, _, _, _, hu, _⟩ | ⟨d, _⟩
    · exact hu
    · omega
theorem alw_bit {d u : Int} (h : alw d u) : bitOK u := by unfold alw at h; unfold bitOK; omega
theorem bxF_v (x y u len s : Int) : bxF x y u len s 0 = x - bwF u len s / 2 ∧ bxF x y u len s 1 = y - bhF u len s / 2 ∧ bxF x y u len s 2 = bwF u len s ∧ bxF x y u len s 3 = bhF u len s ∧ bxF x y u len s 4 = u := by simp [bxF]
theorem bxF_5 (x y u len s : Int) (k : Nat) (h : 5 ≤ k) : bxF x y u len s k = 0 := by
  unfold bxF; rw [if_neg (by omega), if_neg (by omega), if_neg (by omega), if_neg (by omega), if_neg (by omega)]
theorem linv_step {σ τ τ' : Sto} {c r w : Nat} {kp f x y u : Int} {zs : Nat → Nat → Nat → Int} (hP : Phy σ) (hC : ClOK σ c) (hS : SetOK σ c) (hc : c < 6) (hw : w < cn_ σ c) (hr : rkV (vS σ c) (vV σ c) w = r) (h : LInv σ c kp r zs τ) (hch : ChoR τ c (en τ c w) (szw τ c (en τ c w)) kp f x y u) (hl : LayP τ τ' c (w : Int) (szw τ c (en τ c w)) f x y u) (hf : bitOK f) : ∃ zs', (∀ j, j ≤ r → zs' j = zs j) ∧ LInv σ c kp (r + 1) zs' τ' ∧ (f = 1 ↔ 0 < zs' (r + 1) w 2) := by
  have h' := h
  have hcz := linv_cho hP hC hc hw hr h hch
  obtain ⟨hrun, hfr, hPτ, hCτ, hm, h144, hmat, hzero, hpc, hpct, hpl, hord, hsur, hmv, hor, hbg⟩ := h
  have een := fra_en hfr
  have n24 : cn_ σ c ≤ 24 := by have := hC.1; unfold cn_; omega
  have ecn := fra_cn hfr c
  have hw' : w < cn_ τ c := by rw [ecn]; exact hw
  have hEτ := hCτ.2 w hw'
  have hls := linv_lst hS (show r ≤ cn_ σ c by have := (rkV_r hw).2; omega) h' n24
  have hsz := szw_r hCτ hls.1.2.2.1 hw'
  have e144 : en σ c w < 144 := (en_lt hP hc (show w < 24 by omega)).1
  have erng := (en_lt hP hc (show w < 24 by omega))
  have ptry := fun hf1 => cho_try hch hf1
  have mcp := hls.1.2.2.1
  obtain ⟨Lf, L4, L5, Lb, Lu, L1, L0, Lm⟩ := hl
  simp only [Int.toNat_natCast] at Lf L1 L0 Lm
  rw [een] at Lf L1 L0 Lm hEτ hsz ptry
  rw [een, fra_sz hfr] at hch
  rw [fra_sz hfr] at hsz L1 Lm ptry
  have f2 : ∀ e k, τ 2 e k = σ 2 e k := fun e k => hfr 2 e k (by omega) (by omega) (by omega) (by omega) (by omega)
  have g2 : ∀ e k, τ' 2 e k = τ 2 e k := fun e k => Lf 2 e k (by omega) (by omega) (by omega) (by omega) (by omega) (by omega)
  have g10 : ∀ e k, τ' 10 e k = τ 10 e k := fun e k => Lf 10 e k (by omega) (by omega) (by omega) (by omega) (by omega) (by omega)
  have g9 : ∀ e k, τ' 9 e k = τ 9 e k := fun e k => Lf 9 e k (by omega) (by omega) (by omega) (by omega) (by omega) (by omega)
  have g11 : ∀ e k, τ' 11 e k = τ 11 e k := fun e k => Lf 11 e k (by omega) (by omega) (by omega) (by omega) (by omega) (by omega)
  have g0 : ∀ e k, e ≠ 144 → e ≠ en σ c w → τ' 0 e k = τ 0 e k := fun e k h1 h2 => Lf 0 e k (by omega) (by omega) (by omega) (by omega) (by omega) (by omega)
  have ene : ∀ o, o < cn_ σ c → o ≠ w → en σ c o ≠ en σ c w := fun o ho hn he => hn (en_inj hP hc (by omega) (by omega) he)
  have enl : ∀ o, o < cn_ σ c → en σ c o ≠ 144 := fun o ho => by have := (en_lt hP hc (show o < 24 by omega)).1; omega
  have rkne : ∀ o, o < cn_ σ c → o ≠ w → rkV (vS σ c) (vV σ c) o ≠ r := fun o ho hn he => hn (rk_inj (wt := wtv σ c) ho hw (by rw [rkV_c] at he hr; omega))
  have hz0 := hzero w hw (by omega)
  generalize hss : szw σ c (en σ c w) = s at *
  have hb1 := bw_r (u := u) hEτ.1 hsz
  have hb2 := bh_r (u := u) hEτ.1 hsz
  have hf' := hf
  unfold bitOK at hf'
  have p4 : (0 : Int) ≤ τ 4 0 4 := hpc.1
  have zw : (fun k => if f = 1 then bxF x y u (τ 2 (en σ c w) 2) s k else 0) 2 = (if f = 1 then bwF u (τ 2 (en σ c w) 2) s else 0) := rfl
  have fr' : FrA σ τ' c := fun c' i k o1 o2 o3 o4 o5 => by rw [Lf c' i k (by omega) o2 o3 (by omega) (by omega) o5, hfr c' i k o1 o2 o3 o4 o5]
  refine ⟨fun j => if j ≤ r then zs j else fun o k => if o = w then (if f = 1 then bxF x y u (τ 2 (en σ c w) 2) s k else 0) else zs r o k, fun j hj => if_pos hj, ?_, ?_⟩
  rotate_left
  · simp only [show ¬ (r + 1 ≤ r) by omega, ↓reduceIte]
    rcases hf' with q | q <;> subst q
    · simp
    · simp only [↓reduceIte, (bxF_v x y u (τ 2 (en σ c w) 2) s).2.2.1]; exact ⟨fun _ => by omega, fun _ => trivial⟩
  generalize hzz : (fun j => if j ≤ r then zs j else fun o k => if o = w then (if f = 1 then bxF x y u (τ 2 (en σ c w) 2) s k else 0) else zs r o k) = zs'
  have z1 : ∀ j, j ≤ r → zs' j = zs j := fun j hj => by rw [← hzz]; exact if_pos hj
  have z2 : ∀ o k, zs' (r + 1) o k = if o = w then (if f = 1 then bxF x y u (τ 2 (en σ c w) 2) s k else 0) else zs r o k := fun o k => by rw [← hzz]; simp only [show ¬ (r + 1 ≤ r) by omega, ↓reduceIte]
  have z3 : ∀ o, o ≠ w → zs' (r + 1) o = zs r o := fun o ho => by funext k; rw [z2, if_neg ho]
  have zw2 : zs' (r + 1) w 2 = if f = 1 then bwF u (τ 2 (en σ c w) 2) s else 0 := by rw [z2, if_pos rfl]; rfl
  have zpos : 0 < zs' (r + 1) w 2 ↔ f = 1 := by rw [zw2]; rcases hf' with q | q <;> subst q <;> simp; omega
  have hrr := rkV_r hw
  have key0 : ∀ k, k < 6 → f = 1 → τ' 0 (en σ c w) k = if k = 0 then 1 else if k = 1 then u else if k = 2 then x - bwF u (τ 2 (en σ c w) 2) s / 2 else if k = 3 then y - bhF u (τ 2 (en σ c w) 2) s / 2 else if k = 4 then bwF u (τ 2 (en σ c w) 2) s else bhF u (τ 2 (en σ c w) 2) s := by
    intro k hk h1
    obtain ⟨a, b, d, e⟩ := L1 h1
    obtain ⟨e1, e2, e3, e4⟩ := e
    rcases (show k = 0 ∨ k = 1 ∨ k = 2 ∨ k = 3 ∨ k = 4 ∨ k = 5 by omega) with q | q | q | q | q | q <;> subst q <;> simp [b, d, e1, e2, e3, e4]
  have bxin : f = 1 → (0 ≤ x - bwF u (τ 2 (en σ c w) 2) s / 2 ∧ x - bwF u (τ 2 (en σ c w) 2) s / 2 + bwF u (τ 2 (en σ c w) 2) s ≤ 80 ∧ 0 ≤ y - bhF u (τ 2 (en σ c w) 2) s / 2 ∧ y - bhF u (τ 2 (en σ c w) 2) s / 2 + bhF u (τ 2 (en σ c w) 2) s ≤ 50) ∧ bitOK u := by
    intro h1
    obtain ⟨a, b1, b2, b3, b4, -⟩ := ptry h1
    have := mcp.1
    have := mcp.2.1
    exact ⟨⟨b1, by omega, b3, by omega⟩, alw_bit a⟩
  have hP' : Phy τ' := by
    refine ⟨fun e he => ?_, fun c hc j hj => by rw [g9]; exact hPτ.2.1 c hc j hj, fun c hc j hj j' hj' e => hPτ.2.2.1 c hc j hj j' hj' (by rw [← g9, ← g9]; exact e), fun j hj => by rw [g11]; exact hPτ.2.2.2.1 j hj, fun j hj j' hj' e => hPτ.2.2.2.2 j hj j' hj' (by rw [← g11, ← g11]; exact e)⟩
    by_cases q : e = 144
    · subst q
      refine ⟨Lb, ?_, Lu⟩
      rw [Lf 0 144 0 (by omega) (by omega) (by omega) (by omega) (by omega) (by omega)]
      exact (hPτ.1 144 he).2.1
    · by_cases q2 : e = en σ c w
      · subst q2
        rcases hf' with p | p
        · obtain ⟨a, b, d⟩ := L0 p
          have t := hPτ.1 _ he
          refine ⟨?_, by rw [b]; exact Or.inl rfl, by rw [d 1 (by omega)]; exact t.2.2⟩
          unfold bx4
          rw [d 2 (by omega), d 3 (by omega), d 4 (by omega), d 5 (by omega)]; exact t.1
        · have t := bxin p
          refine ⟨?_, by rw [key0 0 (by omega) p]; exact Or.inr rfl, by rw [key0 1 (by omega) p]; exact t.2⟩
          unfold bx4 sm
          rw [key0 2 (by omega) p, key0 3 (by omega) p, key0 4 (by omega) p, key0 5 (by omega) p]
          simp only [Nat.reduceEqDiff, ↓reduceIte, reduceCtorEq]
          omega
      · unfold bx4
        rw [g0 e _ q q2, g0 e _ q q2, g0 e _ q q2, g0 e _ q q2, g0 e _ q q2, g0 e _ q q2]
        exact hPτ.1 e he
  have hC' : ClOK τ' c := by
    have k1 : τ' 1 c 1 = τ 1 c 1 := Lf 1 c 1 (by omega) (by omega) (by omega) (by omega) (by omega) (by omega)
    have kcn : cn_ τ' c = cn_ τ c := by unfold cn_; rw [k1]
    refine ⟨by rw [k1]; exact hCτ.1, fun o ho => ?_⟩
    rw [kcn] at ho
    have hE := hCτ.2 o ho
    have een' : en τ' c o = en σ c o := fra_en fr' c o
    rw [een] at hE
    rw [een']
    by_cases q : o = w
    · subst q
      unfold EntOK at hE ⊢
      simp only [g2, g10]
      refine ⟨hE.1, hE.2.1, hE.2.2.1, hE.2.2.2.1, hE.2.2.2.2.1, fun h1 => ?_⟩
      rcases hf' with p | p
      · have := (L0 p).2.1; omega
      · have t := (bxin p).1
        rw [key0 2 (by omega) p, key0 3 (by omega) p, key0 4 (by omega) p, key0 5 (by omega) p]
        simp only [Nat.reduceEqDiff, ↓reduceIte, reduceCtorEq]
        exact ⟨t.1, t.2.1, t.2.2.1, t.2.2.2, hb1.2.2, hb2.2.2⟩
    · rw [ecn] at ho
      unfold EntOK at hE ⊢
      simp only [g2, g10, g0 _ _ (enl o ho) (ene o ho q)]
      exact hE
  refine ⟨⟨fun o k => by rw [z1 0 (by omega)]; exact hrun.1 o k, fun r' hr' w' hw' e => ?_⟩, fr', hP', hC', L5, ?_, fun o ho hlt => ?_, fun o ho hge => ?_, ?_, ?_, fun i hi => ?_, fun i j hij hj => ?_, fun o ho hz => ?_, ?_, fun o ho => ?_, fun e he h0 => ?_⟩
  · rcases Nat.lt_succ_iff_lt_or_eq.mp hr' with q | q
    · rw [z1 r' (by omega), z1 (r' + 1) (by omega)]
      exact hrun.2 r' q w' hw' e
    · subst q
      have ew : w' = w := rk_inj (wt := wtv σ c) hw' hw (e.trans hr.symm)
      subst ew
      rw [z1 r' (by omega)]
      refine ⟨f, x, y, u, hcz, hf, fun o k ho => by rw [z3 o ho], fun k => ?_⟩
      rw [z2, if_pos rfl, szV_c, hss, f2]
      rfl
  · rw [Lf 0 144 0 (by omega) (by omega) (by omega) (by omega) (by omega) (by omega)]; exact h144
  · by_cases q : o = w
    · subst q
      refine ⟨fun hz => ?_, fun hz => ?_, fun k hk => ?_⟩
      · have p := zpos.mp hz
        rw [z2, z2, z2, z2, z2]
        simp only [↓reduceIte, p]
        obtain ⟨v0, v1, v2, v3, v4⟩ := bxF_v x y u (τ 2 (en σ c o) 2) s
        rw [v0, v1, v2, v3, v4, key0 0 (by omega) p, key0 1 (by omega) p, key0 2 (by omega) p, key0 3 (by omega) p, key0 4 (by omega) p, key0 5 (by omega) p]
        simp
      · have p : f = 0 := by
          rcases hf' with p | p
          · exact p
          · exact absurd (zpos.mpr p) hz
        refine ⟨(L0 p).2.1, fun k => ?_⟩
        rw [z2, if_pos rfl, if_neg (by omega)]
      · rw [z2, if_pos rfl]
        split
        · exact bxF_5 _ _ _ _ _ k hk
        · rfl
    · rw [z3 o q]
      have hM := hmat o ho (by have := rkne o ho q; omega)
      unfold Mat at hM ⊢
      simp only [g0 _ _ (enl o ho) (ene o ho q)]
      exact hM
  · have q : o ≠ w := fun z => by subst z; omega
    rw [z3 o q]
    obtain ⟨a, b⟩ := hzero o ho (by omega)
    exact ⟨a, fun k => by rw [g0 _ _ (enl o ho) (ene o ho q)]; exact b k⟩
  · rw [L4]; omega
  · rw [L4, hpct, ct_add1 (P := fun o => 0 < zs r o 2) (Q := fun o => 0 < zs' (r + 1) o 2) (cn_ σ c) hw (fun o ho q => by rw [z3 o q]) (by rw [hz0.1 2]; omega)]
    rcases hf' with q | q
    · rw [bi_f (fun z => by have := zpos.mp z; omega)]; omega
    · rw [bi_t (zpos.mpr q)]; omega
  · rw [L4] at hi
    by_cases q : (i : Int) < τ 4 0 4
    · rw [Lf 12 1 i (by omega) (by omega) (by omega) (by omega) (by omega) (by omega)]
      obtain ⟨a, b, d⟩ := hpl i q
      have : (τ 12 1 i).toNat ≠ w := fun z => by rw [z, hz0.1 2] at d; omega
      rw [z3 _ this]
      exact ⟨a, b, d⟩
    · have f1 : f = 1 := by omega
      have ei : i = (τ 4 0 4).toNat := by omega
      subst ei
      rw [(L1 f1).1]
      simp only [Int.toNat_natCast]
      exact ⟨by omega, hw, zpos.mpr f1⟩
  · rw [L4] at hj
    rw [Lf 12 1 i (by omega) (by omega) (by omega) (by omega) (by omega) (by omega)]
    by_cases q : (j : Int) < τ 4 0 4
    · rw [Lf 12 1 j (by omega) (by omega) (by omega) (by omega) (by omega) (by omega)]
      exact hord i j hij q
    · have f1 : f = 1 := by omega
      have ej : j = (τ 4 0 4).toNat := by omega
      subst ej
      rw [(L1 f1).1]
      simp only [Int.toNat_natCast]
      obtain ⟨o, ho, e, hz, hlt, -, -⟩ := linv_pl h' (show (i : Int) < τ 4 0 4 by omega)
      have eo : (τ 12 1 i).toNat = o := by omega
      rw [eo, hr]; exact hlt
  · rw [L4]
    by_cases q : o = w
    · subst q
      have f1 := zpos.mp hz
      exact ⟨(τ 4 0 4).toNat, by omega, (L1 f1).1⟩
    · rw [z3 o q] at hz
      obtain ⟨i, hi, e⟩ := hsur o ho hz
      exact ⟨i, by omega, by rw [Lf 12 1 i (by omega) (by omega) (by omega) (by omega) (by omega) (by omega)]; exact e⟩
  · rw [Lm, hmv, ct_add1 (P := fun o => rkV (vS σ c) (vV σ c) o < r ∧ MovZ (vV σ c) (zs r) o) (Q := fun o => rkV (vS σ c) (vV σ c) o < ((r + 1 : Nat) : Int) ∧ MovZ (vV σ c) (zs' (r + 1)) o) (cn_ σ c) hw (fun o ho q => ?_) (fun z => by have := z.1; omega)]
    · have ht := ent_there (hC.2 w hw) (hP.1 _ (show en σ c w < 145 by omega)).2.1
      congr 2
      rw [hz0.2 0]
      apply propext
      constructor
      · rintro ⟨a, b⟩
        refine ⟨by omega, ht.mpr a, fun g => b ?_⟩
        obtain ⟨v1, v2, v3, v4, v5⟩ := vV_box a
        have h1 : f = 1 := zpos.mp (by rw [g.1]; exact ht.mpr a)
        refine ⟨h1, ?_⟩
        rw [v1, v2, v3, v4, z2, z2, z2, z2] at g
        simp only [↓reduceIte, h1] at g
        obtain ⟨w0, w1, w2, w3, w4⟩ := bxF_v x y u (τ 2 (en σ c w) 2) s
        rw [w0, w1, w2, w3] at g
        unfold SamB
        rw [hz0.2, hz0.2, hz0.2, hz0.2]
        exact ⟨g.2.2.1.symm, g.2.2.2.symm, g.1.symm, g.2.1.symm⟩
      · rintro ⟨-, a, b⟩
        have a' := ht.mp a
        refine ⟨a', fun g => b ?_⟩
        obtain ⟨h1, g⟩ := g
        obtain ⟨v1, v2, v3, v4, v5⟩ := vV_box a'
        unfold SamB at g
        rw [hz0.2, hz0.2, hz0.2, hz0.2] at g
        rw [v1, v2, v3, v4, z2, z2, z2, z2]
        simp only [↓reduceIte, h1]
        obtain ⟨w0, w1, w2, w3, w4⟩ := bxF_v x y u (τ 2 (en σ c w) 2) s
        rw [w0, w1, w2, w3]
        exact ⟨g.2.2.1.symm, g.2.2.2.symm, g.1.symm, g.2.1.symm⟩
    · show _ ∧ _ ↔ _ ∧ _
      have e : MovZ (vV σ c) (zs' (r + 1)) o = MovZ (vV σ c) (zs r) o := by unfold MovZ; rw [z3 o q]
      rw [e]
      have := rkne o ho q
      exact and_congr_left fun _ => by omega
  · rw [Lf 12 0 _ (by omega) (by omega) (by omega) (by omega) (by omega) (by omega)]
    exact hor o ho
  · by_cases q2 : e = en σ c w
    · subst q2
      rcases hf' with p | p
      · have := (L0 p).2.1; omega
      · have t := (bxin p).1
        rw [key0 2 (by omega) p, key0 3 (by omega) p, key0 4 (by omega) p, key0 5 (by omega) p]
        simp only [Nat.reduceEqDiff, ↓reduceIte, reduceCtorEq]
        exact ⟨t.1, t.2.1, t.2.2.1, t.2.2.2, hb1.2.2, hb2.2.2⟩
    · have g := fun k => g0 e k (by omega) q2
      rw [g] at h0
      rw [g, g, g, g]
      exact hbg e he h0
