noncomputable def bi (P : Prop) : Int := @ite _ P (Classical.propDecidable P) 1 0
theorem bi_t {P : Prop} (h : P) : bi P = 1 := by unfold bi; rw [if_pos h]
theorem bi_f {P : Prop} (h : ¬ P) : bi P = 0 := by unfold bi; rw [if_neg h]
theorem bi_or {P : Prop} : bi P = 0 ∨ bi P = 1 := by
  by_cases h : P
  · exact Or.inr (bi_t h)
  · exact Or.inl (bi_f h)
theorem bi_R {P : Prop} : inR (bi P) := by rcases bi_or (P := P) with h | h <;> rw [h] <;> exact ⟨by decide, by decide⟩
theorem bi_0 {P : Prop} : (bi P = 0) = ¬ P := by
  by_cases h : P
  · rw [bi_t h]; simp [h]
  · rw [bi_f h]; simp [h]
theorem br_bi {P A B : Prop} : br (bi P = 0) A B = br P B A := by
  unfold br
  rw [bi_0]
  by_cases h : P <;> simp [h]
theorem bi_RT {P : Prop} : inR (bi P) = True := eq_true bi_R
theorem bi_bit {P : Prop} : (bi P = 0 ∨ bi P = 1) = True := eq_true bi_or
def sm (x : Int) : Prop := -100000 ≤ x ∧ x ≤ 100000
def bx4 (σ : Sto) (e : Nat) : Prop := sm (σ 0 e 2) ∧ sm (σ 0 e 3) ∧ sm (σ 0 e 4) ∧ sm (σ 0 e 5)
def apt (σ : Sto) (e o : Nat) (m : Int) : Prop := m ≤ σ 0 o 2 - σ 0 e 2 - σ 0 e 4 ∨ m ≤ σ 0 e 2 - σ 0 o 2 - σ 0 o 4 ∨ m ≤ σ 0 o 3 - σ 0 e 3 - σ 0 e 5 ∨ m ≤ σ 0 e 3 - σ 0 o 3 - σ 0 o 5
/-- a box's slots, all at once -/
def cpBox (σ : Sto) (e o : Nat) : Sto := up3 (up3 (up3 (up3 (up3 (up3 σ 0 e 0 (σ 0 o 0)) 0 e 1 (σ 0 o 1)) 0 e 2 (σ 0 o 2)) 0 e 3 (σ 0 o 3)) 0 e 4 (σ 0 o 4)) 0 e 5 (σ 0 o 5)
theorem up_k {σ : Sto} {c i j c' i' j' : Nat} {x : Int} (h : c' ≠ c ∨ i' ≠ i ∨ j' ≠ j) : up3 σ c i j x c' i' j' = σ c' i' j' := by
  unfold up3; rw [if_neg]; rintro ⟨h1, h2, h3⟩; omega
theorem up_nc {σ : Sto} {c i j c' i' j' : Nat} {x : Int} (h : c' ≠ c) : up3 σ c i j x c' i' j' = σ c' i' j' := up_k (Or.inl h)
theorem up_ni {σ : Sto} {c i j c' i' j' : Nat} {x : Int} (h : i' ≠ i) : up3 σ c i j x c' i' j' = σ c' i' j' := up_k (Or.inr (Or.inl h))
theorem up_nj {σ : Sto} {c i j c' i' j' : Nat} {x : Int} (h : j' ≠ j) : up3 σ c i j x c' i' j' = σ c' i' j' := up_k (Or.inr (Or.inr h))
theorem inR_n {n : Nat} (h : n < 2147483648) : inR (no_index (OfNat.ofNat n)) = True := by
  apply eq_true
  have e : (OfNat.ofNat n : Int) = (n : Int) := rfl
  rw [e]; unfold inR; omega
theorem inR_m1 : inR (-1) = True := eq_true ⟨by decide, by decide⟩
