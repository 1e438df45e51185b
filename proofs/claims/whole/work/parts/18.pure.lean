noncomputable def bi (P : Prop) : Int := @ite _ P (Classical.propDecidable P) 1 0
theorem bi_t {P : Prop} (h : P) : bi P = 1 := by unfold bi; rw [if_pos h]
theorem bi_f {P : Prop} (h : ¬ P) : bi P = 0 := by unfold bi; rw [if_neg h]
theorem bi_or {P : Prop} : bi P = 0 ∨ bi P = 1 := by
  by_cases h : P
  · exact Or.inr (bi_t h)
  · exact Or.inl (bi_f h)
theorem bi_R {P : Prop} : inR (bi P) := by rcases bi_or (P := P) with h | h <;> rw [h] <;> exact ⟨by decide, by decide⟩
theorem bi_0 {P : Prop} : (bi P = 0) = ¬ P := by
  by_cases h : P
  · rw [bi_t h]; simp [h]
  · rw [bi_f h]; simp [h]
theorem br_bi {P A B : Prop} : br (bi P = 0) A B = br P B A := by
  unfold br
  rw [bi_0]
  by_cases h : P <;> simp [h]
theorem bi_RT {P : Prop} : inR (bi P) = True := eq_true bi_R
theorem bit_b {P : Prop} : bitOK (bi P) = True := eq_true bi_or
theorem bit_0 : bitOK 0 = True := eq_true (Or.inl rfl)
theorem bit_1 : bitOK 1 = True := eq_true (Or.inr rfl)
def sm (x : Int) : Prop := -100000 ≤ x ∧ x ≤ 100000
def bx4 (σ : Sto) (e : Nat) : Prop := sm (σ 0 e 2) ∧ sm (σ 0 e 3) ∧ sm (σ 0 e 4) ∧ sm (σ 0 e 5)
def apt (σ : Sto) (e o : Nat) (m : Int) : Prop := m ≤ σ 0 o 2 - σ 0 e 2 - σ 0 e 4 ∨ m ≤ σ 0 e 2 - σ 0 o 2 - σ 0 o 4 ∨ m ≤ σ 0 o 3 - σ 0 e 3 - σ 0 e 5 ∨ m ≤ σ 0 e 3 - σ 0 o 3 - σ 0 o 5
/-- a box's slots, all at once -/
def cpBox (σ : Sto) (e o : Nat) : Sto := up3 (up3 (up3 (up3 (up3 (up3 σ 0 e 0 (σ 0 o 0)) 0 e 1 (σ 0 o 1)) 0 e 2 (σ 0 o 2)) 0 e 3 (σ 0 o 3)) 0 e 4 (σ 0 o 4)) 0 e 5 (σ 0 o 5)
theorem up_k {σ : Sto} {c i j c' i' j' : Nat} {x : Int} (h : c' ≠ c ∨ i' ≠ i ∨ j' ≠ j) : up3 σ c i j x c' i' j' = σ c' i' j' := by
  unfold up3; rw [if_neg]; rintro ⟨h1, h2, h3⟩; omega
theorem up_nc {σ : Sto} {c i j c' i' j' : Nat} {x : Int} (h : c' ≠ c) : up3 σ c i j x c' i' j' = σ c' i' j' := up_k (Or.inl h)
theorem up_ni {σ : Sto} {c i j c' i' j' : Nat} {x : Int} (h : i' ≠ i) : up3 σ c i j x c' i' j' = σ c' i' j' := up_k (Or.inr (Or.inl h))
theorem up_nj {σ : Sto} {c i j c' i' j' : Nat} {x : Int} (h : j' ≠ j) : up3 σ c i j x c' i' j' = σ c' i' j' := up_k (Or.inr (Or.inr h))
theorem inR_n {n : Nat} (h : n < 2147483648) : inR (no_index (OfNat.ofNat n)) = True := by
  apply eq_true
  have e : (OfNat.ofNat n : Int) = (n : Int) := rfl
  rw [e]; unfold inR; omega
theorem inR_m1 : inR (-1) = True := eq_true ⟨by decide, by decide⟩
/-- the entry e is now as o was; nothing else changed -/
def EntCp (σ σ' : Sto) (e o : Nat) : Prop := (∀ k : Nat, 2 ≤ k → k ≤ 5 → σ' 2 e k = σ 2 o k) ∧ (∀ k : Nat, (k : Int) < σ 2 o 2 → σ' 10 e k = σ 10 o k) ∧ (∀ k : Nat, k < 6 → σ' 0 e k = σ 0 o k) ∧ ∀ c i k : Nat, (i ≠ e ∨ (c ≠ 2 ∧ c ≠ 10 ∧ c ≠ 0)) → σ' c i k = σ c i k
def en (σ : Sto) (c w : Nat) : Nat := (σ 9 c w).toNat
/-- what never changes but in order: boxes small, each cloud its own entries, each saved place a cloud of its own -/
def Phy (σ : Sto) : Prop := (∀ e, e < 145 → bx4 σ e ∧ bitOK (σ 0 e 0) ∧ bitOK (σ 0 e 1)) ∧ (∀ c : Nat, c < 6 → ∀ j : Nat, j < 24 → (24 * c : Int) ≤ σ 9 c j ∧ σ 9 c j < 24 * c + 24) ∧ (∀ c : Nat, c < 6 → ∀ j : Nat, j < 24 → ∀ j', j' < 24 → σ 9 c j = σ 9 c j' → j = j') ∧ (∀ j, j < 4 → 2 ≤ σ 11 0 j ∧ σ 11 0 j < 6) ∧ (∀ j, j < 4 → ∀ j', j' < 4 → σ 11 0 j = σ 11 0 j' → j = j')
def EntOK (σ : Sto) (e : Nat) : Prop := (1 ≤ σ 2 e 2 ∧ σ 2 e 2 ≤ 10) ∧ (∀ k : Nat, (k : Int) < σ 2 e 2 → 0 ≤ σ 10 e k ∧ σ 10 e k ≤ 25) ∧ (1 ≤ σ 2 e 3 ∧ σ 2 e 3 ≤ 1000) ∧ (0 ≤ σ 2 e 4 ∧ σ 2 e 4 ≤ 2) ∧ (0 ≤ σ 2 e 5 ∧ σ 2 e 5 ≤ 3) ∧ (σ 0 e 0 = 1 → 0 ≤ σ 0 e 2 ∧ σ 0 e 2 + σ 0 e 4 ≤ 80 ∧ 0 ≤ σ 0 e 3 ∧ σ 0 e 3 + σ 0 e 5 ≤ 50 ∧ 1 ≤ σ 0 e 4 ∧ 1 ≤ σ 0 e 5)
def SetOK (σ : Sto) (c : Nat) : Prop := (10 ≤ σ 1 c 2 ∧ σ 1 c 2 ≤ 80) ∧ (10 ≤ σ 1 c 3 ∧ σ 1 c 3 ≤ 50) ∧ (0 ≤ σ 1 c 4 ∧ σ 1 c 4 ≤ 3) ∧ (1 ≤ σ 1 c 5 ∧ σ 1 c 5 ≤ 4) ∧ (1 ≤ σ 1 c 6 ∧ σ 1 c 6 ≤ 8) ∧ (0 ≤ σ 1 c 7 ∧ σ 1 c 7 ≤ 24)
def cn_ (σ : Sto) (c : Nat) : Nat := (σ 1 c 1).toNat
def ClOK (σ : Sto) (c : Nat) : Prop := (0 ≤ σ 1 c 1 ∧ σ 1 c 1 ≤ 24) ∧ ∀ w, w < cn_ σ c → EntOK σ (en σ c w)
noncomputable def ct (P : Nat → Prop) : Nat → Int
  | 0 => 0
  | n + 1 => ct P n + bi (P n)
def rkB (wt : Nat → Int) (w o : Nat) : Prop := wt w < wt o ∨ (wt o = wt w ∧ o < w)
noncomputable def rk (n : Nat) (wt : Nat → Int) (w : Nat) : Int := ct (rkB wt w) n
def mnF (wt : Nat → Int) : Nat → Int
  | 0 => 1000
  | n + 1 => min (mnF wt n) (wt n)
def mxF (wt : Nat → Int) : Nat → Int
  | 0 => 1
  | n + 1 => max (mxF wt n) (wt n)
def szF (n : Nat) (wt : Nat → Int) (g x : Int) : Int := if mxF wt n ≤ mnF wt n then g else 1 + (x - mnF wt n) * (g - 1) / (mxF wt n - mnF wt n)
def wtv (σ : Sto) (c : Nat) : Nat → Int := fun i => σ 2 (en σ c i) 3
theorem ct_r {P : Nat → Prop} : ∀ n : Nat, 0 ≤ ct P n ∧ ct P n ≤ n := by
  intro n
  induction n with
  | zero => simp [ct]
  | succ n ih => unfold ct; rcases bi_or (P := P n) with h | h <;> rw [h] <;> omega
theorem mnF_r {wt : Nat → Int} : ∀ n : Nat, (∀ i, i < n → 1 ≤ wt i ∧ wt i ≤ 1000) → 1 ≤ mnF wt n ∧ mnF wt n ≤ 1000 ∧ ∀ i, i < n → mnF wt n ≤ wt i := by
  intro n
  induction n with
  | zero => intro _; exact ⟨by simp [mnF], by simp [mnF], fun i h => absurd h (by omega)⟩
  | succ n ih =>
    intro h
    obtain ⟨h1, h2, h3⟩ := ih (fun i hi => h i (by omega))
    have := h n (by omega)
    unfold mnF
    refine ⟨by omega, by omega, fun i hi => ?_⟩
    rcases Nat.lt_succ_iff_lt_or_eq.mp hi with q | q
    · have := h3 i q; omega
    · subst q; omega
theorem mxF_r {wt : Nat → Int} : ∀ n : Nat, (∀ i, i < n → 1 ≤ wt i ∧ wt i ≤ 1000) → 1 ≤ mxF wt n ∧ mxF wt n ≤ 1000 ∧ ∀ i, i < n → wt i ≤ mxF wt n := by
  intro n
  induction n with
  | zero => intro _; exact ⟨by simp [mxF], by simp [mxF], fun i h => absurd h (by omega)⟩
  | succ n ih =>
    intro h
    obtain ⟨h1, h2, h3⟩ := ih (fun i hi => h i (by omega))
    have := h n (by omega)
    unfold mxF
    refine ⟨by omega, by omega, fun i hi => ?_⟩
    rcases Nat.lt_succ_iff_lt_or_eq.mp hi with q | q
    · have := h3 i q; omega
    · subst q; omega
theorem en_lt {σ : Sto} {c j : Nat} (h : Phy σ) (hc : c < 6) (hj : j < 24) : en σ c j < 144 ∧ 24 * c ≤ en σ c j ∧ en σ c j < 24 * c + 24 := by
  have := h.2.1 c hc j hj
  unfold en; omega
theorem al_9 {i : Nat} : ((alen 9 i : Nat) : Int) = 24 := rfl
theorem al_10 {i : Nat} : ((alen 10 i : Nat) : Int) = 10 := rfl
theorem al_11 {i : Nat} : ((alen 11 i : Nat) : Int) = 4 := rfl
theorem al_13 {i : Nat} : ((alen 13 i : Nat) : Int) = 80 := rfl
theorem al_12_0 : ((alen 12 0 : Nat) : Int) = 24 := rfl
theorem al_12_1 : ((alen 12 1 : Nat) : Int) = 24 := rfl
theorem al_12_2 : ((alen 12 2 : Nat) : Int) = 200 := rfl
theorem al_12_3 : ((alen 12 3 : Nat) : Int) = 463 := rfl
theorem al_12_4 : ((alen 12 4 : Nat) : Int) = 1852 := rfl
theorem al_12_5 : ((alen 12 5 : Nat) : Int) = 463 := rfl
theorem al_12_6 : ((alen 12 6 : Nat) : Int) = 24 := rfl
theorem al_12_7 : ((alen 12 7 : Nat) : Int) = 24 := rfl
theorem al_12_8 : ((alen 12 8 : Nat) : Int) = 24 := rfl
theorem al_12_9 : ((alen 12 9 : Nat) : Int) = 24 := rfl
theorem al_12_10 : ((alen 12 10 : Nat) : Int) = 24 := rfl
theorem al_12_11 : ((alen 12 11 : Nat) : Int) = 200 := rfl
