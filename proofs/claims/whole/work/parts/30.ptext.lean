noncomputable def pif {α : Type} (c : Prop) (a b : α) : α := @ite α c (Classical.propDecidable c) a b
theorem pif_t {α : Type} {c : Prop} {a b : α} (h : c) : pif c a b = a := by unfold pif; rw [if_pos h]
theorem pif_f {α : Type} {c : Prop} {a b : α} (h : ¬ c) : pif c a b = b := by unfold pif; rw [if_neg h]
def isL (v : Int) : Prop := 97 ≤ v ∧ v ≤ 122
def isD (v : Int) : Prop := 48 ≤ v ∧ v ≤ 57
/-- how many in a row have P, from p on, at most n -/
noncomputable def rn (P : Int → Prop) (h : Int → Int) : Int → Nat → Nat
  | _, 0 => 0
  | p, n + 1 => pif (P (h p)) (1 + rn P h (p + 1) n) 0
theorem rn_eq {P : Int → Prop} {h : Int → Int} : ∀ (n : Nat) (p : Int) (k : Nat), k ≤ n → (∀ j : Nat, j < k → P (h (p + j))) → (k = n ∨ ¬ P (h (p + k))) → rn P h p n = k := by
  intro n
  induction n with
  | zero => intro p k h1 _ _; unfold rn; omega
  | succ n ih =>
    intro p k h1 h2 h3
    unfold rn
    cases k with
    | zero =>
      rcases h3 with h3 | h3
      · omega
      · rw [pif_f (by simpa using h3)]
    | succ k =>
      have h0 := h2 0 (by omega)
      rw [pif_t (by simpa using h0)]
      have e : rn P h (p + 1) n = k := ih (p + 1) k (by omega) (fun j hj => by have := h2 (j + 1) (by omega); rwa [show p + ((j + 1 : Nat) : Int) = p + 1 + j by omega] at this) (by
        rcases h3 with h3 | h3
        · left; omega
        · right; rwa [show p + ((k + 1 : Nat) : Int) = p + 1 + k by omega] at h3)
      omega
theorem rn_le {P : Int → Prop} {h : Int → Int} : ∀ (n : Nat) (p : Int), rn P h p n ≤ n := by
  intro n
  induction n with
  | zero => intro p; exact Nat.le_refl _
  | succ n ih =>
    intro p; unfold rn
    by_cases hp : P (h p)
    · rw [pif_t hp]; have := ih (p + 1); omega
    · rw [pif_f hp]; omega
theorem rn_all {P : Int → Prop} {h : Int → Int} : ∀ (n : Nat) (p : Int) (j : Nat), j < rn P h p n → P (h (p + j)) := by
  intro n
  induction n with
  | zero => intro p j hj; exact absurd hj (by unfold rn; omega)
  | succ n ih =>
    intro p j hj
    unfold rn at hj
    by_cases hp : P (h p)
    · rw [pif_t hp] at hj
      cases j with
      | zero => simpa using hp
      | succ j =>
        have := ih (p + 1) j (by omega)
        rwa [show p + ((j + 1 : Nat) : Int) = p + 1 + j by omega]
    · rw [pif_f hp] at hj; omega
theorem rn_end {P : Int → Prop} {h : Int → Int} : ∀ (n : Nat) (p : Int), rn P h p n = n ∨ ¬ P (h (p + rn P h p n)) := by
  intro n
  induction n with
  | zero => intro p; left; rfl
  | succ n ih =>
    intro p
    unfold rn
    by_cases hp : P (h p)
    · rw [pif_t hp]
      rcases ih (p + 1) with q | q
      · left; omega
      · right; rwa [show p + ((1 + rn P h (p + 1) n : Nat) : Int) = p + 1 + (rn P h (p + 1) n : Int) by omega]
    · rw [pif_f hp]; right; simpa using hp
def num (h : Int → Int) (q : Int) : Nat → Int
  | 0 => 0
  | d + 1 => num h q d * 10 + (h (q + d) - 48)
theorem num_r {h : Int → Int} {q : Int} : ∀ d : Nat, (∀ j : Nat, j < d → isD (h (q + j))) → 0 ≤ num h q d ∧ num h q d < 10 ^ d := by
  intro d
  induction d with
  | zero => intro _; unfold num; omega
  | succ d ih =>
    intro hd
    obtain ⟨a, b⟩ := ih (fun j hj => hd j (by omega))
    have := hd d (by omega)
    unfold isD at this
    unfold num
    rw [Int.pow_succ]
    omega
/-- behind the weight: direction, group, semicolon: where it fails, or -1 -/
noncomputable def dgt (h : Int → Int) (r : Int) : Int := pif (¬ (48 ≤ h r ∧ h r ≤ 50)) r (pif (¬ (48 ≤ h (r + 1) ∧ h (r + 1) ≤ 51)) (r + 1) (pif (h (r + 2) ≠ 59) (r + 2) (-1)))
noncomputable def wgt0 (h : Int → Int) (q : Int) : Int := pif (rn isD h q 4 = 0 ∨ isD (h (q + rn isD h q 4))) (q + rn isD h q 4) (pif (¬ (1 ≤ num h q (rn isD h q 4) ∧ num h q (rn isD h q 4) ≤ 1000)) q (pif (h (q + rn isD h q 4) ≠ 44) (q + rn isD h q 4) (-1)))
noncomputable def let0 (h : Int → Int) (kn : Prop) (p : Int) : Int := pif (rn isL h p 10 = 0 ∨ h (p + rn isL h p 10) ≠ 44) (p + rn isL h p 10) (pif kn p (-1))
/-- where the weight begins; where the direction stands -/
noncomputable def qpos (h : Int → Int) (p : Int) : Int := p + rn isL h p 10 + 1
noncomputable def rpos (h : Int → Int) (p : Int) : Int := qpos h p + rn isD h (qpos h p) 4 + 1
/-- one item from p on: where it fails, or -1 -/
noncomputable def itm (h : Int → Int) (full kn : Prop) (p : Int) : Int := pif full p (pif (let0 h kn p ≠ -1) (let0 h kn p) (pif (wgt0 h (qpos h p) ≠ -1) (wgt0 h (qpos h p)) (dgt h (rpos h p))))
/-- where the i-th word begins -/
noncomputable def ps (h : Int → Int) : Nat → Int
  | 0 => 0
  | i + 1 => rpos h (ps h i) + 3
/-- the i-th word was told before -/
def knw (h : Int → Int) (i : Nat) : Prop := ∃ o, o < i ∧ rn isL h (ps h o) 10 = rn isL h (ps h i) 10 ∧ ∀ j : Nat, j < rn isL h (ps h i) 10 → h (ps h o + j) = h (ps h i + j)
noncomputable def itmi (h : Int → Int) (i : Nat) : Int := itm h (24 ≤ i) (knw h i) (ps h i)
theorem phy_congr {σ τ : Sto} (h : ∀ c i k : Nat, c = 0 ∨ c = 9 ∨ c = 11 → τ c i k = σ c i k) (hP : Phy σ) : Phy τ := by
  obtain ⟨h1, h2, h3, h4, h5⟩ := hP
  have f0 : ∀ i k, τ 0 i k = σ 0 i k := fun i k => h 0 i k (by omega)
  have f9 : ∀ i k, τ 9 i k = σ 9 i k := fun i k => h 9 i k (by omega)
  have f11 : ∀ i k, τ 11 i k = σ 11 i k := fun i k => h 11 i k (by omega)
  unfold Phy bx4
  simp only [f0, f9, f11]
  exact ⟨h1, h2, h3, h4, h5⟩
theorem ent_congr {σ τ : Sto} {e : Nat} (h : ∀ c k : Nat, c = 0 ∨ c = 2 ∨ c = 10 → τ c e k = σ c e k) (hE : EntOK σ e) : EntOK τ e := by
  have f0 : ∀ k, τ 0 e k = σ 0 e k := fun k => h 0 k (by omega)
  have f2 : ∀ k, τ 2 e k = σ 2 e k := fun k => h 2 k (by omega)
  have f10 : ∀ k, τ 10 e k = σ 10 e k := fun k => h 10 k (by omega)
  unfold EntOK
  simp only [f0, f2, f10]
  exact hE
theorem cl_congr {σ τ : Sto} {c : Nat} (h1 : τ 1 c 1 = σ 1 c 1) (h9 : ∀ k, τ 9 c k = σ 9 c k) (h : ∀ i, i < cn_ σ c → ∀ c' k : Nat, c' = 0 ∨ c' = 2 ∨ c' = 10 → τ c' (en σ c i) k = σ c' (en σ c i) k) (hC : ClOK σ c) : ClOK τ c := by
  obtain ⟨a, b⟩ := hC
  refine ⟨by rw [h1]; exact a, fun w hw => ?_⟩
  have hw' : w < cn_ σ c := by unfold cn_ at hw ⊢; rw [h1] at hw; exact hw
  have e : en τ c w = en σ c w := by unfold en; rw [h9]
  rw [e]
  exact ent_congr (h w hw') (b w hw')
theorem hrc_congr {σ τ : Sto} (h1 : τ 6 0 1 = σ 6 0 1) (h2 : ∀ k, τ 12 2 k = σ 12 2 k) : hrc τ = hrc σ := by
  funext p; unfold hrc; rw [h1, h2]
theorem tx_congr {σ τ : Sto} (h1 : τ 6 0 1 = σ 6 0 1) (h2 : ∀ k, τ 12 2 k = σ 12 2 k) (h : TxOK σ) : TxOK τ := by
  unfold TxOK; simp only [h1, h2]; exact h
theorem hrc_r {σ : Sto} (h : TxOK σ) {p : Int} (hp : 0 ≤ p) : -1 ≤ hrc σ p ∧ hrc σ p ≤ 127 := by
  unfold hrc
  by_cases hq : p < σ 6 0 1
  · rw [if_pos hq]; have := h.2 p.toNat (by omega); omega
  · rw [if_neg hq]; omega
theorem hrc_lt {σ : Sto} {p : Int} (h : 0 ≤ hrc σ p) : p < σ 6 0 1 ∧ hrc σ p = σ 12 2 p.toNat := by
  unfold hrc at h ⊢
  by_cases hq : p < σ 6 0 1
  · rw [if_pos hq]; exact ⟨hq, rfl⟩
  · rw [if_neg hq] at h; omega
