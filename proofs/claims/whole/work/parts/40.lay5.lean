def szw (σ : Sto) (c e : Nat) : Int := szF (cn_ σ c) (wtv σ c) (σ 1 c 6) (σ 2 e 3)
theorem szF_r {n : Nat} {wt : Nat → Int} {g : Int} {i : Nat} (h : ∀ i, i < n → 1 ≤ wt i ∧ wt i ≤ 1000) (hg : 1 ≤ g ∧ g ≤ 8) (hi : i < n) : 1 ≤ szF n wt g (wt i) ∧ szF n wt g (wt i) ≤ 8 := by
  unfold szF
  have a := (mnF_r n h).2.2 i hi
  have b := (mxF_r n h).2.2 i hi
  split
  · exact hg
  · have p : 0 ≤ (wt i - mnF wt n) * (g - 1) := Int.mul_nonneg (by omega) (by omega)
    have q : (wt i - mnF wt n) * (g - 1) ≤ (mxF wt n - mnF wt n) * 7 := Int.mul_le_mul (by omega) (by omega) (by omega) (by omega)
    have q1 : 0 ≤ (wt i - mnF wt n) * (g - 1) / (mxF wt n - mnF wt n) := Int.ediv_nonneg p (by omega)
    have q2 : (wt i - mnF wt n) * (g - 1) / (mxF wt n - mnF wt n) ≤ 7 := by
      refine Int.ediv_le_of_le_mul (by omega) ?_
      rw [Int.mul_comm 7]; exact q
    omega
theorem szw_r {σ : Sto} {c w : Nat} (hC : ClOK σ c) (hS : SetOK σ c) (hw : w < cn_ σ c) : 1 ≤ szw σ c (en σ c w) ∧ szw σ c (en σ c w) ≤ 8 :=
  szF_r (wt := wtv σ c) (fun i hi => (hC.2 i hi).2.2.1) hS.2.2.2.2.1 hw
/-- the word's box: kept, or the first along its spiral -/
def ChoR (σ : Sto) (c e : Nat) (s keep f x y u : Int) : Prop := (keep = 1 ∧ StayP σ c e s ∧ f = 1 ∧ x = σ 0 e 2 + σ 0 e 4 / 2 ∧ y = σ 0 e 3 + σ 0 e 5 / 2 ∧ u = σ 0 e 1) ∨ (¬ (keep = 1 ∧ StayP σ c e s) ∧ ∃ x0 y0, StartAt σ c (σ 2 e 5) x0 y0 ∧ SpR (PosAt σ c) (σ 2 e 4) (σ 2 e 2) s (σ 1 c 5) x0 y0 f x y u)
def SamB (σ : Sto) (e : Nat) (len s x y u : Int) : Prop := σ 0 e 2 = x - bwF u len s / 2 ∧ σ 0 e 3 = y - bhF u len s / 2 ∧ σ 0 e 4 = bwF u len s ∧ σ 0 e 5 = bhF u len s
/-- what laying the word w of the cloud c changes -/
def LayP (σ σ' : Sto) (c : Nat) (w s f x y u : Int) : Prop :=
  (∀ c' i k : Nat, (c' ≠ 0 ∨ i ≠ 144 ∨ k = 0) → (c' ≠ 4 ∨ i ≠ 0 ∨ (k ≠ 4 ∧ k ≠ 5)) → (c' ≠ 5 ∨ i ≠ 0) → (c' ≠ 12 ∨ i ≠ 1 ∨ k ≠ (σ 4 0 4).toNat) → (c' ≠ 0 ∨ i ≠ en σ c w.toNat) → (c' ≠ 1 ∨ i ≠ c ∨ k ≠ 7) → σ' c' i k = σ c' i k) ∧
  σ' 4 0 4 = σ 4 0 4 + f ∧ (0 ≤ σ' 4 0 5 ∧ σ' 4 0 5 ≤ 24) ∧ bx4 σ' 144 ∧ bitOK (σ' 0 144 1) ∧
  (f = 1 → σ' 12 1 (σ 4 0 4).toNat = w ∧ σ' 0 (en σ c w.toNat) 0 = 1 ∧ σ' 0 (en σ c w.toNat) 1 = u ∧ SamB σ' (en σ c w.toNat) (σ 2 (en σ c w.toNat) 2) s x y u) ∧
  (f = 0 → σ' 12 1 (σ 4 0 4).toNat = σ 12 1 (σ 4 0 4).toNat ∧ σ' 0 (en σ c w.toNat) 0 = 0 ∧ ∀ k, 1 ≤ k → σ' 0 (en σ c w.toNat) k = σ 0 (en σ c w.toNat) k) ∧
  σ' 1 c 7 = σ 1 c 7 + bi (σ 0 (en σ c w.toNat) 0 = 1 ∧ ¬ (f = 1 ∧ SamB σ (en σ c w.toNat) (σ 2 (en σ c w.toNat) 2) s x y u))
theorem cpBox_nc {σ : Sto} {e o c i k : Nat} (h : c ≠ 0 ∨ i ≠ e) : cpBox σ e o c i k = σ c i k := by
  unfold cpBox; rw [up_k (by omega), up_k (by omega), up_k (by omega), up_k (by omega), up_k (by omega), up_k (by omega)]
theorem cpBox_c {σ : Sto} {e o c i k : Nat} (h : c ≠ 0) : cpBox σ e o c i k = σ c i k := cpBox_nc (Or.inl h)
theorem cpBox_v {σ : Sto} {e o : Nat} (h : e ≠ o) (k : Nat) (hk : k < 6) : cpBox σ e o 0 e k = σ 0 o k := by
  have h2 : o ≠ e := fun z => h z.symm
  rcases (show k = 0 ∨ k = 1 ∨ k = 2 ∨ k = 3 ∨ k = 4 ∨ k = 5 by omega) with h | h | h | h | h | h <;> subst h <;> simp [cpBox, up3, h2]
theorem frl_start {σ σ' : Sto} {c : Nat} (h : FrL σ σ') (hc : c < 6) (hL : LSt σ c) : StartAt σ' c = StartAt σ c := by
  have f1 : ∀ k, σ' 1 c k = σ 1 c k := fun k => h.1 1 c k (by omega) (by omega) (by omega)
  have f4 : σ' 4 0 4 = σ 4 0 4 := h.1 4 0 4 (by omega) (by omega) (by omega)
  have fp : ∀ i, pb σ' c i = pb σ c i := fun i => frl_pb h
  have f2 : ∀ e k, σ' 2 e k = σ 2 e k := fun e k => h.1 2 e k (by omega) (by omega) (by omega)
  have f0 : ∀ i : Nat, (i : Int) < σ 4 0 4 → ∀ k, σ' 0 (pb σ c i) k = σ 0 (pb σ c i) k := fun i hi k => h.1 0 _ k (by have := (pb_lt hc hL hi).1; omega) (by omega) (by omega)
  funext g x y
  unfold StartAt
  simp only [f1, f4, fp, f2]
  apply propext
  refine or_congr (exists_congr fun i => ?_) Iff.rfl
  constructor
  · rintro ⟨a, b, d, e1, e2⟩
    rw [f0 i a 2, f0 i a 4] at e1
    rw [f0 i a 3, f0 i a 5] at e2
    exact ⟨a, b, d, e1, e2⟩
  · rintro ⟨a, b, d, e1, e2⟩
    rw [f0 i a 2, f0 i a 4, f0 i a 3, f0 i a 5]
    exact ⟨a, b, d, e1, e2⟩
theorem frl_ls2 {σ σ' : Sto} {c : Nat} (h : FrL σ σ') (hc : c < 6) (hL : LS2 σ c) : LS2 σ' c := by
  refine ⟨frl_lst h hc hL.1, fun i hi => ?_⟩
  rw [h.1 4 0 4 (by omega) (by omega) (by omega)] at hi
  rw [frl_pb h, h.1 0 _ 0 (by omega) (by omega) (by omega)]
  exact hL.2 i hi
def sp_X4_layWord : Spec := fun a σ K KX => ∃ (i : Nat) (c : Nat) (w : Int) (kp : Int), a = [vr 4 i, vr 1 c, vi w, vi kp] ∧ (i < 1 ∧ c < 6 ∧ LS2 σ c ∧ σ 0 144 0 = 1 ∧ 0 ≤ w ∧ w < σ 1 c 1 ∧ σ 4 0 4 < 24 ∧ σ 1 c 7 < 24 ∧ bitOK kp ∧ ∀ σ' f x y u, ChoR σ c (en σ c w.toNat) (szw σ c (en σ c w.toNat)) kp f x y u → LayP σ σ' c w (szw σ c (en σ c w.toNat)) f x y u → bitOK f → K (some (vi f)) σ')
theorem sp_X4_layWord_e {i : Nat} {c : Nat} {w : Int} {kp : Int} {σ : Sto} {K : Option AV → Sto → Prop} {KX : Nat → Sto → Prop} : sp_X4_layWord [vr 4 i, vr 1 c, vi w, vi kp] σ K KX = (i < 1 ∧ c < 6 ∧ LS2 σ c ∧ σ 0 144 0 = 1 ∧ 0 ≤ w ∧ w < σ 1 c 1 ∧ σ 4 0 4 < 24 ∧ σ 1 c 7 < 24 ∧ bitOK kp ∧ ∀ σ' f x y u, ChoR σ c (en σ c w.toNat) (szw σ c (en σ c w.toNat)) kp f x y u → LayP σ σ' c w (szw σ c (en σ c w.toNat)) f x y u → bitOK f → K (some (vi f)) σ') := propext ⟨fun h => by obtain ⟨_, _, _, _, h, hb⟩ := h; cases h; exact hb, fun hb => ⟨_, _, _, _, rfl, hb⟩⟩
def pr_X4_layWord : Par := (ftX4, [(69, (2, 0, 1 + 1, sp_X1_sizeOf)), (73, (4, 0, 4 + 1, sp_X4_canStay)), (77, (4, 0, 4 + 1, sp_X4_findOnSpiral)), (80, (2, 0, 0 + 1, sp_X0_hasSameCells)), (84, (2, 0, 0 + 1, sp_X0_copyFrom))], [], [], 2, 0, none)
def rm_X4_layWord : Room := { frames := 4, cells := 0, slots := 0, locals := 93 }
theorem ca_X4_layWord_69 : List.lookup 69 pr_X4_layWord.2.1 = some (2, 0, 1 + 1, sp_X1_sizeOf) := rfl
theorem ca_X4_layWord_73 : List.lookup 73 pr_X4_layWord.2.1 = some (4, 0, 4 + 1, sp_X4_canStay) := rfl
theorem ca_X4_layWord_77 : List.lookup 77 pr_X4_layWord.2.1 = some (4, 0, 4 + 1, sp_X4_findOnSpiral) := rfl
theorem ca_X4_layWord_80 : List.lookup 80 pr_X4_layWord.2.1 = some (2, 0, 0 + 1, sp_X0_hasSameCells) := rfl
theorem ca_X4_layWord_84 : List.lookup 84 pr_X4_layWord.2.1 = some (2, 0, 0 + 1, sp_X0_copyFrom) := rfl
set_option maxRecDepth 100000 in
set_option maxHeartbeats 4000000 in
theorem sem_X4_layWord : Sem pr_X4_layWord cX4_layWord 8 sp_X4_layWord := by
  rintro a σ K KX ⟨i, c, w, kp, rfl, hi, hc, hL2, h144, hw0, hw1, hpc, hmv, hkp, hK⟩
  refine ⟨by simp [vr, vi, nj], Nat.le_of_ble_eq_true rfl, fun G hG => ?_⟩
  have hi0 : i = 0 := by omega
  subst hi0
  have hL := hL2.1
  have hP := hL.1
  have hC := hL.2.1
  have hS := hL.2.2.1
  have hw2 : w.toNat < cn_ σ c := by unfold cn_; omega
  have n24 := hC.1
  have he := (en_lt hP hc (show w.toNat < 24 by omega)).1
  have hE := hC.2 _ hw2
  have hs := szw_r hC hS hw2
  have hx1 : mnF (wtv σ c) (cn_ σ c) ≤ σ 2 (en σ c w.toNat) 3 := (mnF_r (wt := wtv σ c) (cn_ σ c) (fun i hi => (hC.2 i hi).2.2.1)).2.2 _ hw2
  have hx2 : σ 2 (en σ c w.toNat) 3 ≤ 1000 := hE.2.2.1.2
  have hg1 := hS.2.2.2.2.1.1
  have hg2 := hS.2.2.2.2.1.2
  have w24 : w < 24 := by omega
  have hp4 := hL.2.2.2.1
  have mv := hS.2.2.2.2.2
  have hmx := hL.2.2.2.2.2
  generalize hee : en σ c w.toNat = e at *
  have hee' : (σ 9 c w.toNat).toNat = e := hee
  have he5 : e < 145 := by omega
  have hne : e ≠ 144 := by omega
  have hs1 := hs.1
  have hs2 := hs.2
  have p0 : 0 ≤ σ 4 0 4 := hp4.1
  have fin1 : ∀ τ τ' x y u, FrL σ τ → Cand τ (σ 2 e 2) (szw σ c e) x y u → ChoR σ c e (szw σ c e) kp 1 x y u → (∀ c' i k : Nat, (c' ≠ 1 ∨ i ≠ c ∨ k ≠ 7) → τ' c' i k = τ c' i k) → τ' 1 c 7 = τ 1 c 7 + bi (σ 0 e 0 = 1 ∧ ¬ (SamB σ e (σ 2 e 2) (szw σ c e) x y u)) → K (some (vi 1)) (up3 (up3 (cpBox τ' e 144) 12 1 (σ 4 0 4).toNat w) 4 0 4 (σ 4 0 4 + 1)) := by
    intro τ τ' x y u hF hcd hch hfr hm
    refine hK _ 1 x y u hch ?_ (Or.inr rfl)
    unfold LayP
    rw [hee]
    have z : ∀ c' i k : Nat, (c' ≠ 4 ∨ i ≠ 0 ∨ k ≠ 4) → (c' ≠ 12 ∨ i ≠ 1 ∨ k ≠ (σ 4 0 4).toNat) → (c' ≠ 0 ∨ i ≠ e) → (c' ≠ 1 ∨ i ≠ c ∨ k ≠ 7) → up3 (up3 (cpBox τ' e 144) 12 1 (σ 4 0 4).toNat w) 4 0 4 (σ 4 0 4 + 1) c' i k = τ c' i k := by
      intro c' i k o1 o2 o3 o4
      rw [up_k o1, up_k o2, cpBox_nc o3, hfr c' i k o4]
    have zb : ∀ k, k < 6 → up3 (up3 (cpBox τ' e 144) 12 1 (σ 4 0 4).toNat w) 4 0 4 (σ 4 0 4 + 1) 0 e k = τ 0 144 k := by
      intro k hk
      rw [up_k (by omega), up_k (by omega), cpBox_v hne k hk, hfr 0 144 k (by omega)]
    refine ⟨fun c' i k o1 o2 o3 o4 o5 o6 => ?_, by simp [up3], ?_, ?_, ?_, fun _ => ⟨by simp [up3], ?_, ?_, ?_⟩, fun h => absurd h (by omega), ?_⟩
    · rw [z c' i k (by omega) o4 o5 o6, hF.1 c' i k o1 (by omega) o3]
    · rw [z 4 0 5 (by omega) (by omega) (by omega) (by omega)]; exact hF.2.1
    · unfold bx4
      rw [z 0 144 2 (by omega) (by omega) (by omega) (by omega), z 0 144 3 (by omega) (by omega) (by omega) (by omega), z 0 144 4 (by omega) (by omega) (by omega) (by omega), z 0 144 5 (by omega) (by omega) (by omega) (by omega)]
      exact hF.2.2.1
    · rw [z 0 144 1 (by omega) (by omega) (by omega) (by omega)]; exact hF.2.2.2
    · rw [zb 0 (by omega), hF.1 0 144 0 (by omega) (by omega) (by omega)]; exact h144
    · rw [zb 1 (by omega)]; exact hcd.1
    · unfold SamB
      rw [zb 2 (by omega), zb 3 (by omega), zb 4 (by omega), zb 5 (by omega)]; exact hcd.2
    · rw [up_k (by omega), up_k (by omega), cpBox_c (by omega), hm, hF.1 1 c 7 (by omega) (by omega) (by omega)]
      simp
  have fin0 : ∀ τ τ' x y u, FrL σ τ → ChoR σ c e (szw σ c e) kp 0 x y u → (∀ c' i k : Nat, (c' ≠ 1 ∨ i ≠ c ∨ k ≠ 7) → τ' c' i k = τ c' i k) → τ' 1 c 7 = τ 1 c 7 + bi (σ 0 e 0 = 1) → K (some (vi 0)) (up3 τ' 0 e 0 0) := by
    intro τ τ' x y u hF hch hfr hm
    refine hK _ 0 x y u hch ?_ (Or.inl rfl)
    unfold LayP
    rw [hee]
    have z : ∀ c' i k : Nat, (c' ≠ 0 ∨ i ≠ e ∨ k ≠ 0) → (c' ≠ 1 ∨ i ≠ c ∨ k ≠ 7) → up3 τ' 0 e 0 0 c' i k = τ c' i k := by
      intro c' i k o3 o4
      rw [up_k (by omega), hfr c' i k o4]
    refine ⟨fun c' i k o1 o2 o3 o4 o5 o6 => ?_, ?_, ?_, ?_, ?_, fun h => absurd h (by omega), fun _ => ⟨?_, by simp [up3], fun k hk => ?_⟩, ?_⟩
    · rw [z c' i k (by omega) o6, hF.1 c' i k o1 (by omega) o3]
    · rw [z 4 0 4 (by omega) (by omega), hF.1 4 0 4 (by omega) (by omega) (by omega)]; omega
    · rw [z 4 0 5 (by omega) (by omega)]; exact hF.2.1
    · unfold bx4
      rw [z 0 144 2 (by omega) (by omega), z 0 144 3 (by omega) (by omega), z 0 144 4 (by omega) (by omega), z 0 144 5 (by omega) (by omega)]
      exact hF.2.2.1
    · rw [z 0 144 1 (by omega) (by omega)]; exact hF.2.2.2
    · rw [z 12 1 _ (by omega) (by omega), hF.1 12 1 _ (by omega) (by omega) (by omega)]
    · rw [z 0 e k (by omega) (by omega), hF.1 0 e k (by omega) (by omega) (by omega)]
    · rw [up_k (by omega), hm, hF.1 1 c 7 (by omega) (by omega) (by omega)]
      simp
  show G 0 [vr 4 0, vr 1 c, vi w, vi kp, vj, vj, vj, vj] [] σ 0
  have tail : ∀ τ f x y u, FrL σ τ → bitOK f → (f = 1 → Cand τ (σ 2 e 2) (szw σ c e) x y u) → ChoR σ c e (szw σ c e) kp f x y u → G 58 [vr 4 0, vr 1 c, vi w, vi kp, vr 2 e, vr 0 e, vi (szw σ c e), vi f] [] τ 0 := by
    intro τ f x y u hF hf hcd hch
    have hPτ := frl_phy hF hP
    have be := (hPτ.1 e he5)
    have b1 := be.1
    have b2 := be.2.1
    have b3 := (hPτ.1 144 (by omega)).1
    have b4 := (hPτ.1 144 (by omega)).2.1
    have b5 := (hPτ.1 144 (by omega)).2.2
    have b2' := b2
    unfold bitOK at b2'
    have rb : inR (τ 0 e 0) := by unfold inR; omega
    have rm : inR (τ 1 c 7) := by rw [hF.1 1 c 7 (by omega) (by omega) (by omega)]; unfold inR; omega
    have k0 : ∀ k, τ 0 e k = σ 0 e k := fun k => hF.1 0 e k (by omega) (by omega) (by omega)
    have k4 : τ 4 0 4 = σ 4 0 4 := hF.1 4 0 4 (by omega) (by omega) (by omega)
    have k7 : τ 1 c 7 = σ 1 c 7 := hF.1 1 c 7 (by omega) (by omega) (by omega)
    have rp : inR (σ 4 0 4) := by unfold inR; omega
    have rm7 : inR (σ 1 c 7) := by unfold inR; omega
    have rw' : inR w := by unfold inR; omega
    rcases hf with h | h
    · subst h
      refine run hG [] 100 ?_
      simp only [wpn_s, wpn_0, br_T, br_F, st1, st2, true_and, and_true, ↓reduceIte, if_true, if_false, List.contains_nil, List.contains_cons, Bool.or_false, Bool.or_true, Bool.true_or, Bool.false_or, Bool.false_eq_true, bit_0, bit_1, bit_b, true_or, or_true, or_false, false_or, up_e, up_nc, up_nj, ne_eq, not_false_eq_true, not_true_eq_false, inR_n, inR_m1, bi_RT, br_bi, Nat.reduceAdd, Nat.reduceLT, Nat.reduceLeDiff, Nat.reduceEqDiff, Nat.reduceBEq, Nat.zero_le, Int.reduceAdd, Int.reduceNeg, Int.reduceLE, Int.reduceLT, Int.reduceToNat, Int.reduceNatCast, Int.reduceEq, Int.reduceSub, Int.reduceMul, set_0, set_s, len_c, len_n, nc2_0, nc2_1i, nc2_1r, nc2_1j, nc2_s, rcv_e, take_c, take_z, drop_c, drop_z, rev_c, rev_n, app_c, app_n, tol_s, tol_n, Nat.le_refl, s1i_e, s2i_e, s1r_e, sir_e, siir_e, srir_e, c1_i, c1_r, s1v_e, s2v_e, ldv_0, ldv_s, ldx_0, ldx_s, ldi_0, ldi_s, ldr_0, ldr_s, fg_0_0, fg_0_1, fg_0_2, fg_0_3, fg_0_4, fg_0_5, fg_1_0, fg_1_1, fg_1_2, fg_1_3, fg_1_4, fg_1_5, fg_1_6, fg_1_7, fg_2_0, fg_2_1, fg_2_2, fg_2_3, fg_2_4, fg_2_5, fg_3_0, fg_3_1, fg_4_0, fg_4_1, fg_4_2, fg_4_3, fg_4_4, fg_4_5, fg_5_0, fg_5_1, fg_5_2, fg_5_3, fg_5_4, fg_5_5, fg_5_6, fg_6_0, fg_6_1, fg_6_2, fg_6_3, fg_7_0, fg_7_1, fg_7_2, fg_7_3, fg_7_4, fg_7_5, fg_8_0, fg_8_1, fg_8_2, fg_8_3, fg_8_4, fg_8_5, fg_8_6, fg_8_7, fg_8_8, fg_8_9, fg_8_10, fg_8_11, fg_8_12, fg_8_13, cnt_0, cnt_1, cnt_2, cnt_3, cnt_4, cnt_5, cnt_6, cnt_7, cnt_8, cnt_9, cnt_10, cnt_11, cnt_12, cnt_13, cnt_14, fk, rd, al_9, al_10, al_11, al_13, al_12_0, al_12_1, al_12_2, al_12_3, al_12_4, al_12_5, al_12_6, al_12_7, al_12_8, al_12_9, al_12_10, al_12_11, stepd_ok dX4_layWord_0, sf_aload_n1, stepd_ok dX4_layWord_1, sf_getfield (P := pr_X4_layWord) ftX4_60, stepd_ok dX4_layWord_4, sf_iload_n2, stepd_ok dX4_layWord_5, sf_aaload, stepd_ok dX4_layWord_6, sf_astore, stepd_ok dX4_layWord_8, sf_aload, stepd_ok dX4_layWord_10, sf_getfield (P := pr_X4_layWord) ftX4_64, stepd_ok dX4_layWord_13, stepd_ok dX4_layWord_15, stepd_ok dX4_layWord_16, stepd_ok dX4_layWord_18, sf_inv (P := pr_X4_layWord) ca_X4_layWord_69 rfl, stepd_ok dX4_layWord_21, sf_istore, stepd_ok dX4_layWord_23, sf_iload_n3, stepd_ok dX4_layWord_24, jk_at (pc := 24) (off := 15) (t := 39) rfl, jo_at (pc := 24) (off := 15) (t := 39) rfl, sf_ifCond_eq, stepd_ok dX4_layWord_27, sf_aload_n0, stepd_ok dX4_layWord_28, stepd_ok dX4_layWord_29, stepd_ok dX4_layWord_31, sf_iload, stepd_ok dX4_layWord_33, sf_inv (P := pr_X4_layWord) ca_X4_layWord_73 rfl, stepd_ok dX4_layWord_36, jk_at (pc := 36) (off := 15) (t := 51) rfl, jo_at (pc := 36) (off := 15) (t := 51) rfl, sf_ifCond_ne, stepd_ok dX4_layWord_39, stepd_ok dX4_layWord_40, stepd_ok dX4_layWord_41, stepd_ok dX4_layWord_43, stepd_ok dX4_layWord_45, sf_inv (P := pr_X4_layWord) ca_X4_layWord_77 rfl, stepd_ok dX4_layWord_48, jk_at (pc := 48) (off := 7) (t := 55) rfl, jo_at (pc := 48) (off := 7) (t := 55) rfl, stepd_ok dX4_layWord_51, sf_iconst, stepd_ok dX4_layWord_52, jk_at (pc := 52) (off := 4) (t := 56) rfl, sf_goto, stepd_ok dX4_layWord_55, stepd_ok dX4_layWord_56, stepd_ok dX4_layWord_58, stepd_ok dX4_layWord_60, sf_getfield (P := pr_X4_layWord) ftX4_52, stepd_ok dX4_layWord_63, jk_at (pc := 63) (off := 30) (t := 93) rfl, jo_at (pc := 63) (off := 30) (t := 93) rfl, stepd_ok dX4_layWord_66, stepd_ok dX4_layWord_68, jk_at (pc := 68) (off := 15) (t := 83) rfl, jo_at (pc := 68) (off := 15) (t := 83) rfl, stepd_ok dX4_layWord_71, stepd_ok dX4_layWord_73, stepd_ok dX4_layWord_74, sf_getfield (P := pr_X4_layWord) ftX4_21, stepd_ok dX4_layWord_77, sf_inv (P := pr_X4_layWord) ca_X4_layWord_80 rfl, stepd_ok dX4_layWord_80, jk_at (pc := 80) (off := 13) (t := 93) rfl, jo_at (pc := 80) (off := 13) (t := 93) rfl, stepd_ok dX4_layWord_83, stepd_ok dX4_layWord_84, sf_dup, stepd_ok dX4_layWord_85, sf_getfield (P := pr_X4_layWord) ftX4_49, stepd_ok dX4_layWord_88, stepd_ok dX4_layWord_89, sf_iadd, stepd_ok dX4_layWord_90, sf_putfield (P := pr_X4_layWord) ftX4_49, stepd_ok dX4_layWord_93, stepd_ok dX4_layWord_95, jk_at (pc := 95) (off := 35) (t := 130) rfl, jo_at (pc := 95) (off := 35) (t := 130) rfl, stepd_ok dX4_layWord_98, stepd_ok dX4_layWord_100, stepd_ok dX4_layWord_101, stepd_ok dX4_layWord_104, sf_inv (P := pr_X4_layWord) ca_X4_layWord_84 rfl, stepd_ok dX4_layWord_107, stepd_ok dX4_layWord_108, sf_getfield (P := pr_X4_layWord) ftX4_15, stepd_ok dX4_layWord_111, stepd_ok dX4_layWord_112, sf_getfield (P := pr_X4_layWord) ftX4_46, stepd_ok dX4_layWord_115, stepd_ok dX4_layWord_116, sf_iastore, stepd_ok dX4_layWord_117, stepd_ok dX4_layWord_118, stepd_ok dX4_layWord_119, stepd_ok dX4_layWord_122, stepd_ok dX4_layWord_123, stepd_ok dX4_layWord_124, sf_putfield (P := pr_X4_layWord) ftX4_46, stepd_ok dX4_layWord_127, jk_at (pc := 127) (off := 9) (t := 136) rfl, stepd_ok dX4_layWord_130, stepd_ok dX4_layWord_132, stepd_ok dX4_layWord_133, sf_putfield (P := pr_X4_layWord) ftX4_52, stepd_ok dX4_layWord_136, stepd_ok dX4_layWord_138, sf_iret2 (P := pr_X4_layWord) rfl rfl, sp_X1_sizeOf_e, sp_X4_canStay_e, sp_X4_findOnSpiral_e, sp_X0_hasSameCells_e, sp_X0_copyFrom_e, Nat.zero_lt_one, hc, he, he5, hne, b1, b2, b3, b4, b5, rb, k7, rm7]
      have e00 : τ 0 e 0 = σ 0 e 0 := k0 0
      rw [e00]
      refine ⟨fun h => ?_, fun h => ?_⟩
      · exact fin0 τ τ x y u hF hch (fun _ _ _ _ => rfl) (by rw [bi_f (by omega)]; omega)
      · exact fin0 τ _ x y u hF hch (fun c' i k o => up_k o) (by rw [bi_t (by omega), up_e, k7])
    · subst h
      have hcd := hcd rfl
      refine run hG [] 100 ?_
      simp only [wpn_s, wpn_0, br_T, br_F, st1, st2, true_and, and_true, ↓reduceIte, if_true, if_false, List.contains_nil, List.contains_cons, Bool.or_false, Bool.or_true, Bool.true_or, Bool.false_or, Bool.false_eq_true, bit_0, bit_1, bit_b, true_or, or_true, or_false, false_or, up_e, up_nc, up_nj, ne_eq, not_false_eq_true, not_true_eq_false, inR_n, inR_m1, bi_RT, br_bi, Nat.reduceAdd, Nat.reduceLT, Nat.reduceLeDiff, Nat.reduceEqDiff, Nat.reduceBEq, Nat.zero_le, Int.reduceAdd, Int.reduceNeg, Int.reduceLE, Int.reduceLT, Int.reduceToNat, Int.reduceNatCast, Int.reduceEq, Int.reduceSub, Int.reduceMul, set_0, set_s, len_c, len_n, nc2_0, nc2_1i, nc2_1r, nc2_1j, nc2_s, rcv_e, take_c, take_z, drop_c, drop_z, rev_c, rev_n, app_c, app_n, tol_s, tol_n, Nat.le_refl, s1i_e, s2i_e, s1r_e, sir_e, siir_e, srir_e, c1_i, c1_r, s1v_e, s2v_e, ldv_0, ldv_s, ldx_0, ldx_s, ldi_0, ldi_s, ldr_0, ldr_s, fg_0_0, fg_0_1, fg_0_2, fg_0_3, fg_0_4, fg_0_5, fg_1_0, fg_1_1, fg_1_2, fg_1_3, fg_1_4, fg_1_5, fg_1_6, fg_1_7, fg_2_0, fg_2_1, fg_2_2, fg_2_3, fg_2_4, fg_2_5, fg_3_0, fg_3_1, fg_4_0, fg_4_1, fg_4_2, fg_4_3, fg_4_4, fg_4_5, fg_5_0, fg_5_1, fg_5_2, fg_5_3, fg_5_4, fg_5_5, fg_5_6, fg_6_0, fg_6_1, fg_6_2, fg_6_3, fg_7_0, fg_7_1, fg_7_2, fg_7_3, fg_7_4, fg_7_5, fg_8_0, fg_8_1, fg_8_2, fg_8_3, fg_8_4, fg_8_5, fg_8_6, fg_8_7, fg_8_8, fg_8_9, fg_8_10, fg_8_11, fg_8_12, fg_8_13, cnt_0, cnt_1, cnt_2, cnt_3, cnt_4, cnt_5, cnt_6, cnt_7, cnt_8, cnt_9, cnt_10, cnt_11, cnt_12, cnt_13, cnt_14, fk, rd, al_9, al_10, al_11, al_13, al_12_0, al_12_1, al_12_2, al_12_3, al_12_4, al_12_5, al_12_6, al_12_7, al_12_8, al_12_9, al_12_10, al_12_11, stepd_ok dX4_layWord_0, sf_aload_n1, stepd_ok dX4_layWord_1, sf_getfield (P := pr_X4_layWord) ftX4_60, stepd_ok dX4_layWord_4, sf_iload_n2, stepd_ok dX4_layWord_5, sf_aaload, stepd_ok dX4_layWord_6, sf_astore, stepd_ok dX4_layWord_8, sf_aload, stepd_ok dX4_layWord_10, sf_getfield (P := pr_X4_layWord) ftX4_64, stepd_ok dX4_layWord_13, stepd_ok dX4_layWord_15, stepd_ok dX4_layWord_16, stepd_ok dX4_layWord_18, sf_inv (P := pr_X4_layWord) ca_X4_layWord_69 rfl, stepd_ok dX4_layWord_21, sf_istore, stepd_ok dX4_layWord_23, sf_iload_n3, stepd_ok dX4_layWord_24, jk_at (pc := 24) (off := 15) (t := 39) rfl, jo_at (pc := 24) (off := 15) (t := 39) rfl, sf_ifCond_eq, stepd_ok dX4_layWord_27, sf_aload_n0, stepd_ok dX4_layWord_28, stepd_ok dX4_layWord_29, stepd_ok dX4_layWord_31, sf_iload, stepd_ok dX4_layWord_33, sf_inv (P := pr_X4_layWord) ca_X4_layWord_73 rfl, stepd_ok dX4_layWord_36, jk_at (pc := 36) (off := 15) (t := 51) rfl, jo_at (pc := 36) (off := 15) (t := 51) rfl, sf_ifCond_ne, stepd_ok dX4_layWord_39, stepd_ok dX4_layWord_40, stepd_ok dX4_layWord_41, stepd_ok dX4_layWord_43, stepd_ok dX4_layWord_45, sf_inv (P := pr_X4_layWord) ca_X4_layWord_77 rfl, stepd_ok dX4_layWord_48, jk_at (pc := 48) (off := 7) (t := 55) rfl, jo_at (pc := 48) (off := 7) (t := 55) rfl, stepd_ok dX4_layWord_51, sf_iconst, stepd_ok dX4_layWord_52, jk_at (pc := 52) (off := 4) (t := 56) rfl, sf_goto, stepd_ok dX4_layWord_55, stepd_ok dX4_layWord_56, stepd_ok dX4_layWord_58, stepd_ok dX4_layWord_60, sf_getfield (P := pr_X4_layWord) ftX4_52, stepd_ok dX4_layWord_63, jk_at (pc := 63) (off := 30) (t := 93) rfl, jo_at (pc := 63) (off := 30) (t := 93) rfl, stepd_ok dX4_layWord_66, stepd_ok dX4_layWord_68, jk_at (pc := 68) (off := 15) (t := 83) rfl, jo_at (pc := 68) (off := 15) (t := 83) rfl, stepd_ok dX4_layWord_71, stepd_ok dX4_layWord_73, stepd_ok dX4_layWord_74, sf_getfield (P := pr_X4_layWord) ftX4_21, stepd_ok dX4_layWord_77, sf_inv (P := pr_X4_layWord) ca_X4_layWord_80 rfl, stepd_ok dX4_layWord_80, jk_at (pc := 80) (off := 13) (t := 93) rfl, jo_at (pc := 80) (off := 13) (t := 93) rfl, stepd_ok dX4_layWord_83, stepd_ok dX4_layWord_84, sf_dup, stepd_ok dX4_layWord_85, sf_getfield (P := pr_X4_layWord) ftX4_49, stepd_ok dX4_layWord_88, stepd_ok dX4_layWord_89, sf_iadd, stepd_ok dX4_layWord_90, sf_putfield (P := pr_X4_layWord) ftX4_49, stepd_ok dX4_layWord_93, stepd_ok dX4_layWord_95, jk_at (pc := 95) (off := 35) (t := 130) rfl, jo_at (pc := 95) (off := 35) (t := 130) rfl, stepd_ok dX4_layWord_98, stepd_ok dX4_layWord_100, stepd_ok dX4_layWord_101, stepd_ok dX4_layWord_104, sf_inv (P := pr_X4_layWord) ca_X4_layWord_84 rfl, stepd_ok dX4_layWord_107, stepd_ok dX4_layWord_108, sf_getfield (P := pr_X4_layWord) ftX4_15, stepd_ok dX4_layWord_111, stepd_ok dX4_layWord_112, sf_getfield (P := pr_X4_layWord) ftX4_46, stepd_ok dX4_layWord_115, stepd_ok dX4_layWord_116, sf_iastore, stepd_ok dX4_layWord_117, stepd_ok dX4_layWord_118, stepd_ok dX4_layWord_119, stepd_ok dX4_layWord_122, stepd_ok dX4_layWord_123, stepd_ok dX4_layWord_124, sf_putfield (P := pr_X4_layWord) ftX4_46, stepd_ok dX4_layWord_127, jk_at (pc := 127) (off := 9) (t := 136) rfl, stepd_ok dX4_layWord_130, stepd_ok dX4_layWord_132, stepd_ok dX4_layWord_133, sf_putfield (P := pr_X4_layWord) ftX4_52, stepd_ok dX4_layWord_136, stepd_ok dX4_layWord_138, sf_iret2 (P := pr_X4_layWord) rfl rfl, sp_X1_sizeOf_e, sp_X4_canStay_e, sp_X4_findOnSpiral_e, sp_X0_hasSameCells_e, sp_X0_copyFrom_e, Nat.zero_lt_one, hc, he, he5, hne, b1, b2, b3, b4, b5, rb, k7, k4, rp, rm7, rw', cpBox_c, p0, hpc]
      have e00 : τ 0 e 0 = σ 0 e 0 := k0 0
      have q2 : τ 0 144 2 = x - bwF u (σ 2 e 2) (szw σ c e) / 2 := hcd.2.1
      have q3 : τ 0 144 3 = y - bhF u (σ 2 e 2) (szw σ c e) / 2 := hcd.2.2.1
      have q4 : τ 0 144 4 = bwF u (σ 2 e 2) (szw σ c e) := hcd.2.2.2.1
      have q5 : τ 0 144 5 = bhF u (σ 2 e 2) (szw σ c e) := hcd.2.2.2.2
      rw [k0, k0, k0, k0, k0, q2, q3, q4, q5]
      refine ⟨fun h => ?_, fun h => ⟨fun g => ?_, fun g => ?_⟩⟩
      · exact fin1 τ τ x y u hF hcd hch (fun _ _ _ _ => rfl) (by rw [bi_f (fun z => absurd z.1 (by omega))]; omega)
      · exact fin1 τ τ x y u hF hcd hch (fun _ _ _ _ => rfl) (by rw [bi_f (fun z => z.2 g)]; omega)
      · exact fin1 τ _ x y u hF hcd hch (fun c' i k o => up_k o) (by rw [bi_t ⟨by omega, g⟩, up_e, k7])
  have esz : szF (cn_ σ c) (wtv σ c) (σ 1 c 6) (σ 2 e 3) = szw σ c e := rfl
  refine run hG [58] 100 ?_
  simp only [wpn_s, wpn_0, br_T, br_F, st1, st2, true_and, and_true, ↓reduceIte, if_true, if_false, List.contains_nil, List.contains_cons, Bool.or_false, Bool.or_true, Bool.true_or, Bool.false_or, Bool.false_eq_true, bit_0, bit_1, bit_b, true_or, or_true, or_false, false_or, up_e, up_nc, up_nj, ne_eq, not_false_eq_true, not_true_eq_false, inR_n, inR_m1, bi_RT, br_bi, Nat.reduceAdd, Nat.reduceLT, Nat.reduceLeDiff, Nat.reduceEqDiff, Nat.reduceBEq, Nat.zero_le, Int.reduceAdd, Int.reduceNeg, Int.reduceLE, Int.reduceLT, Int.reduceToNat, Int.reduceNatCast, Int.reduceEq, Int.reduceSub, Int.reduceMul, set_0, set_s, len_c, len_n, nc2_0, nc2_1i, nc2_1r, nc2_1j, nc2_s, rcv_e, take_c, take_z, drop_c, drop_z, rev_c, rev_n, app_c, app_n, tol_s, tol_n, Nat.le_refl, s1i_e, s2i_e, s1r_e, sir_e, siir_e, srir_e, c1_i, c1_r, s1v_e, s2v_e, ldv_0, ldv_s, ldx_0, ldx_s, ldi_0, ldi_s, ldr_0, ldr_s, fg_0_0, fg_0_1, fg_0_2, fg_0_3, fg_0_4, fg_0_5, fg_1_0, fg_1_1, fg_1_2, fg_1_3, fg_1_4, fg_1_5, fg_1_6, fg_1_7, fg_2_0, fg_2_1, fg_2_2, fg_2_3, fg_2_4, fg_2_5, fg_3_0, fg_3_1, fg_4_0, fg_4_1, fg_4_2, fg_4_3, fg_4_4, fg_4_5, fg_5_0, fg_5_1, fg_5_2, fg_5_3, fg_5_4, fg_5_5, fg_5_6, fg_6_0, fg_6_1, fg_6_2, fg_6_3, fg_7_0, fg_7_1, fg_7_2, fg_7_3, fg_7_4, fg_7_5, fg_8_0, fg_8_1, fg_8_2, fg_8_3, fg_8_4, fg_8_5, fg_8_6, fg_8_7, fg_8_8, fg_8_9, fg_8_10, fg_8_11, fg_8_12, fg_8_13, cnt_0, cnt_1, cnt_2, cnt_3, cnt_4, cnt_5, cnt_6, cnt_7, cnt_8, cnt_9, cnt_10, cnt_11, cnt_12, cnt_13, cnt_14, fk, rd, al_9, al_10, al_11, al_13, al_12_0, al_12_1, al_12_2, al_12_3, al_12_4, al_12_5, al_12_6, al_12_7, al_12_8, al_12_9, al_12_10, al_12_11, stepd_ok dX4_layWord_0, sf_aload_n1, stepd_ok dX4_layWord_1, sf_getfield (P := pr_X4_layWord) ftX4_60, stepd_ok dX4_layWord_4, sf_iload_n2, stepd_ok dX4_layWord_5, sf_aaload, stepd_ok dX4_layWord_6, sf_astore, stepd_ok dX4_layWord_8, sf_aload, stepd_ok dX4_layWord_10, sf_getfield (P := pr_X4_layWord) ftX4_64, stepd_ok dX4_layWord_13, stepd_ok dX4_layWord_15, stepd_ok dX4_layWord_16, stepd_ok dX4_layWord_18, sf_inv (P := pr_X4_layWord) ca_X4_layWord_69 rfl, stepd_ok dX4_layWord_21, sf_istore, stepd_ok dX4_layWord_23, sf_iload_n3, stepd_ok dX4_layWord_24, jk_at (pc := 24) (off := 15) (t := 39) rfl, jo_at (pc := 24) (off := 15) (t := 39) rfl, sf_ifCond_eq, stepd_ok dX4_layWord_27, sf_aload_n0, stepd_ok dX4_layWord_28, stepd_ok dX4_layWord_29, stepd_ok dX4_layWord_31, sf_iload, stepd_ok dX4_layWord_33, sf_inv (P := pr_X4_layWord) ca_X4_layWord_73 rfl, stepd_ok dX4_layWord_36, jk_at (pc := 36) (off := 15) (t := 51) rfl, jo_at (pc := 36) (off := 15) (t := 51) rfl, sf_ifCond_ne, stepd_ok dX4_layWord_39, stepd_ok dX4_layWord_40, stepd_ok dX4_layWord_41, stepd_ok dX4_layWord_43, stepd_ok dX4_layWord_45, sf_inv (P := pr_X4_layWord) ca_X4_layWord_77 rfl, stepd_ok dX4_layWord_48, jk_at (pc := 48) (off := 7) (t := 55) rfl, jo_at (pc := 48) (off := 7) (t := 55) rfl, stepd_ok dX4_layWord_51, sf_iconst, stepd_ok dX4_layWord_52, jk_at (pc := 52) (off := 4) (t := 56) rfl, sf_goto, stepd_ok dX4_layWord_55, stepd_ok dX4_layWord_56, stepd_ok dX4_layWord_58, stepd_ok dX4_layWord_60, sf_getfield (P := pr_X4_layWord) ftX4_52, stepd_ok dX4_layWord_63, jk_at (pc := 63) (off := 30) (t := 93) rfl, jo_at (pc := 63) (off := 30) (t := 93) rfl, stepd_ok dX4_layWord_66, stepd_ok dX4_layWord_68, jk_at (pc := 68) (off := 15) (t := 83) rfl, jo_at (pc := 68) (off := 15) (t := 83) rfl, stepd_ok dX4_layWord_71, stepd_ok dX4_layWord_73, stepd_ok dX4_layWord_74, sf_getfield (P := pr_X4_layWord) ftX4_21, stepd_ok dX4_layWord_77, sf_inv (P := pr_X4_layWord) ca_X4_layWord_80 rfl, stepd_ok dX4_layWord_80, jk_at (pc := 80) (off := 13) (t := 93) rfl, jo_at (pc := 80) (off := 13) (t := 93) rfl, stepd_ok dX4_layWord_83, stepd_ok dX4_layWord_84, sf_dup, stepd_ok dX4_layWord_85, sf_getfield (P := pr_X4_layWord) ftX4_49, stepd_ok dX4_layWord_88, stepd_ok dX4_layWord_89, sf_iadd, stepd_ok dX4_layWord_90, sf_putfield (P := pr_X4_layWord) ftX4_49, stepd_ok dX4_layWord_93, stepd_ok dX4_layWord_95, jk_at (pc := 95) (off := 35) (t := 130) rfl, jo_at (pc := 95) (off := 35) (t := 130) rfl, stepd_ok dX4_layWord_98, stepd_ok dX4_layWord_100, stepd_ok dX4_layWord_101, stepd_ok dX4_layWord_104, sf_inv (P := pr_X4_layWord) ca_X4_layWord_84 rfl, stepd_ok dX4_layWord_107, stepd_ok dX4_layWord_108, sf_getfield (P := pr_X4_layWord) ftX4_15, stepd_ok dX4_layWord_111, stepd_ok dX4_layWord_112, sf_getfield (P := pr_X4_layWord) ftX4_46, stepd_ok dX4_layWord_115, stepd_ok dX4_layWord_116, sf_iastore, stepd_ok dX4_layWord_117, stepd_ok dX4_layWord_118, stepd_ok dX4_layWord_119, stepd_ok dX4_layWord_122, stepd_ok dX4_layWord_123, stepd_ok dX4_layWord_124, sf_putfield (P := pr_X4_layWord) ftX4_46, stepd_ok dX4_layWord_127, jk_at (pc := 127) (off := 9) (t := 136) rfl, stepd_ok dX4_layWord_130, stepd_ok dX4_layWord_132, stepd_ok dX4_layWord_133, sf_putfield (P := pr_X4_layWord) ftX4_52, stepd_ok dX4_layWord_136, stepd_ok dX4_layWord_138, sf_iret2 (P := pr_X4_layWord) rfl rfl, sp_X1_sizeOf_e, sp_X4_canStay_e, sp_X4_findOnSpiral_e, sp_X0_hasSameCells_e, sp_X0_copyFrom_e, Nat.zero_lt_one, hc, he, he5, hee', hP, hC, hg1, hg2, hx1, hx2, hL, hL2, hE, hs1, hs2, hw0, w24, hkp, esz]
  have hkp' := hkp
  unfold bitOK at hkp'
  refine ⟨by unfold inR; omega, fun hk => ?_, fun hk σ1 F1 g5 gc => ⟨fun hst => ?_, fun hst => ?_⟩⟩
  · intro σ' f x0 y0 x y u hS0 hF hsp hcd hf
    have hch : ChoR σ c e (szw σ c e) kp f x y u := Or.inr ⟨fun z => absurd z.1 (by omega), x0, y0, hS0, hsp⟩
    rcases hf with h | h
    · subst h
      exact ⟨by unfold inR; omega, fun _ => tail σ' 0 x y u hF (Or.inl rfl) hcd hch, fun h => absurd rfl h⟩
    · subst h
      exact ⟨by unfold inR; omega, fun h => absurd h (by omega), fun _ => tail σ' 1 x y u hF (Or.inr rfl) hcd hch⟩
  · exact tail σ1 1 _ _ _ F1 (Or.inr rfl) (fun _ => gc hst) (Or.inl ⟨by omega, hst, rfl, rfl, rfl, rfl⟩)
  · have f2 : ∀ k, σ1 2 e k = σ 2 e k := fun k => F1.1 2 e k (by omega) (by omega) (by omega)
    have f15 : σ1 1 c 5 = σ 1 c 5 := F1.1 1 c 5 (by omega) (by omega) (by omega)
    rw [frl_start F1 hc hL, frl_pos F1 hc hL, f2, f2, f2, f15]
    refine ⟨frl_ls2 F1 hc hL2, ent_congr (fun c' k _ => F1.1 c' e k (by omega) (by omega) (by omega)) hE, fun σ' f x0 y0 x y u hS0 hF hsp hcd hf => ?_⟩
    have F2 := FrL_trans F1 hF
    have hch : ChoR σ c e (szw σ c e) kp f x y u := Or.inr ⟨fun z => hst z.2, x0, y0, hS0, hsp⟩
    rcases hf with h | h
    · subst h
      exact ⟨by unfold inR; omega, fun _ => tail σ' 0 x y u F2 (Or.inl rfl) hcd hch, fun h => absurd rfl h⟩
    · subst h
      exact ⟨by unfold inR; omega, fun h => absurd h (by omega), fun _ => tail σ' 1 x y u F2 (Or.inr rfl) hcd hch⟩
theorem cn_X4_layWord (l : Launch) (Γ : Ga) : Cn l Γ yX4_layWord (wsy yX4_layWord cX4_layWord 8 (some .boolean)) rm_X4_layWord 0 sp_X4_layWord := Cn_of (P := pr_X4_layWord) (own := RX4) (by decide) rfl rfl (by decide) rfl ⟨rfl, rfl⟩ ftX4_ok (List.forall_mem_cons.mpr ⟨callV_of (rc := 1) (cn_X1_sizeOf l Γ) rfl rfl (List.forall_mem_cons.mpr ⟨wl_X4_69, fun _ h => wm_X1_sizeOf h⟩) ⟨rfl, by decide, by decide, by decide +kernel⟩ ⟨by decide, by decide⟩, List.forall_mem_cons.mpr ⟨callV_of (rc := 4) (cn_X4_canStay l Γ) rfl rfl (List.forall_mem_cons.mpr ⟨wl_X4_73, fun _ h => wm_X4_canStay h⟩) ⟨rfl, by decide, by decide, by decide +kernel⟩ ⟨by decide, by decide⟩, List.forall_mem_cons.mpr ⟨callV_of (rc := 4) (cn_X4_findOnSpiral l Γ) rfl rfl (List.forall_mem_cons.mpr ⟨wl_X4_77, fun _ h => wm_X4_findOnSpiral h⟩) ⟨rfl, by decide, by decide, by decide +kernel⟩ ⟨by decide, by decide⟩, List.forall_mem_cons.mpr ⟨callV_of (rc := 0) (cn_X0_hasSameCells l Γ) rfl rfl (List.forall_mem_cons.mpr ⟨wl_X4_80, fun _ h => wm_X0_hasSameCells h⟩) ⟨rfl, by decide, by decide, by decide +kernel⟩ ⟨by decide, by decide⟩, List.forall_mem_cons.mpr ⟨callV_of (rc := 0) (cn_X0_copyFrom l Γ) rfl rfl (List.forall_mem_cons.mpr ⟨wl_X4_84, fun _ h => wm_X0_copyFrom h⟩) ⟨rfl, by decide, by decide, by decide +kernel⟩ ⟨by decide, by decide⟩, fun _ h => (List.not_mem_nil h).elim⟩⟩⟩⟩⟩) (fun _ h => (List.not_mem_nil h).elim) (fun _ _ _ _ _ _ _ _ _ _ q hq => (List.not_mem_nil hq).elim) sem_X4_layWord
