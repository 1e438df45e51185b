theorem inj_surj : ∀ (n : Nat) (f : Nat → Nat), (∀ i, i < n → f i < n) → (∀ i, i < n → ∀ j, j < n → f i = f j → i = j) → ∀ r, r < n → ∃ i, i < n ∧ f i = r := by
  intro n
  induction n with
  | zero => intro f _ _ r hr; exact absurd hr (by omega)
  | succ n ih =>
    intro f hlt hinj r hr
    have hg := ih (fun i => if f i = n then f n else f i) (fun i hi => by
      show (if f i = n then f n else f i) < n
      have a := hlt i (by omega)
      have b := hlt n (by omega)
      by_cases h : f i = n
      · rw [if_pos h]
        have : f n ≠ n := fun z => by have := hinj i (by omega) n (by omega) (by omega); omega
        omega
      · rw [if_neg h]; omega) (fun i hi j hj h => by
      by_cases h1 : f i = n <;> by_cases h2 : f j = n
      · exact hinj i (by omega) j (by omega) (by omega)
      · simp only [h1, h2, ↓reduceIte] at h
        have := hinj n (by omega) j (by omega) h; omega
      · simp only [h1, h2, ↓reduceIte] at h
        have := hinj i (by omega) n (by omega) h; omega
      · simp only [h1, h2, ↓reduceIte] at h
        exact hinj i (by omega) j (by omega) h)
    by_cases hk : r = f n
    · exact ⟨n, by omega, hk.symm⟩
    · by_cases hn : r = n
      · have b := hlt n (by omega)
        obtain ⟨i, hi, e⟩ := hg (f n) (by omega)
        by_cases h1 : f i = n
        · exact ⟨i, by omega, by omega⟩
        · simp only [h1, ↓reduceIte] at e
          have := hinj i (by omega) n (by omega) e; omega
      · obtain ⟨i, hi, e⟩ := hg r (by omega)
        by_cases h1 : f i = n
        · simp only [h1, ↓reduceIte] at e; exact absurd e.symm hk
        · simp only [h1, ↓reduceIte] at e
          exact ⟨i, by omega, e⟩
theorem ct_congr {P Q : Nat → Prop} : ∀ n : Nat, (∀ i, i < n → (P i ↔ Q i)) → ct P n = ct Q n := by
  intro n
  induction n with
  | zero => intro _; rfl
  | succ n ih =>
    intro h
    show ct P n + bi (P n) = ct Q n + bi (Q n)
    rw [ih (fun i hi => h i (by omega)), propext (h n (by omega))]
theorem ct_le {P Q : Nat → Prop} : ∀ n : Nat, (∀ i, i < n → P i → Q i) → ct P n ≤ ct Q n := by
  intro n
  induction n with
  | zero => intro _; exact Int.le_refl _
  | succ n ih =>
    intro h
    show ct P n + bi (P n) ≤ ct Q n + bi (Q n)
    have a := ih (fun i hi => h i (by omega))
    by_cases hp : P n
    · rw [bi_t hp, bi_t (h n (by omega) hp)]; omega
    · rw [bi_f hp]; rcases bi_or (P := Q n) with z | z <;> omega
theorem ct_add1 {P Q : Nat → Prop} {w : Nat} : ∀ n : Nat, w < n → (∀ i, i < n → i ≠ w → (P i ↔ Q i)) → ¬ P w → ct Q n = ct P n + bi (Q w) := by
  intro n
  induction n with
  | zero => intro h; exact absurd h (by omega)
  | succ n ih =>
    intro hw h hp
    show ct Q n + bi (Q n) = ct P n + bi (P n) + bi (Q w)
    by_cases e : w = n
    · subst e
      rw [ct_congr (P := P) (Q := Q) w (fun i hi => h i (by omega) (by omega)), bi_f hp]; omega
    · rw [ih (by omega) (fun i hi => h i (by omega)) hp, propext (h n (by omega) (fun z => e z.symm))]; omega
theorem ct_lt {P Q : Nat → Prop} {w : Nat} {n : Nat} (hw : w < n) (h : ∀ i, i < n → P i → Q i) (hp : ¬ P w) (hq : Q w) : ct P n < ct Q n := by
  have a := ct_add1 (P := P) (Q := fun i => P i ∨ i = w) n hw (fun i _ hi => ⟨Or.inl, fun z => z.resolve_right hi⟩) hp
  have b := ct_le (P := fun i => P i ∨ i = w) (Q := Q) n (fun i hi z => z.elim (h i hi) (fun e => e ▸ hq))
  rw [bi_t (Or.inr rfl)] at a
  omega
theorem ct_0 {P : Nat → Prop} {n : Nat} (h : ∀ i, i < n → ¬ P i) : ct P n = 0 := by
  have : ∀ m, ct (fun _ => False) m = 0 := by
    intro m
    induction m with
    | zero => rfl
    | succ m ih => show ct (fun _ => False) m + bi False = 0; rw [ih, bi_f (fun z => z)]; omega
  rw [ct_congr (Q := fun _ => False) n (fun i hi => ⟨h i hi, fun z => z.elim⟩), this]
theorem ct_all {P : Nat → Prop} {n : Nat} (h : ct P n = n) : ∀ i, i < n → P i := by
  intro i hi
  apply Classical.byContradiction
  intro hp
  have a := ct_lt (P := P) (Q := fun _ => True) hi (fun _ _ _ => trivial) hp trivial
  have b := (ct_r (P := fun _ => True) n).2
  omega
theorem rkB_lt {n : Nat} {wt : Nat → Int} {w o : Nat} (ho : o < n) (h : rkB wt w o) : rk n wt o < rk n wt w := by
  refine ct_lt ho (fun i _ hi => ?_) (fun z => ?_) h
  · unfold rkB at *; omega
  · unfold rkB at z; omega
theorem rk_inj {n : Nat} {wt : Nat → Int} {w o : Nat} (hw : w < n) (ho : o < n) (h : rk n wt w = rk n wt o) : w = o := by
  apply Classical.byContradiction
  intro hne
  have : rkB wt w o ∨ rkB wt o w := by unfold rkB; omega
  rcases this with z | z
  · have := rkB_lt ho z; omega
  · have := rkB_lt hw z; omega
theorem rk_r {n : Nat} {wt : Nat → Int} {w : Nat} (hw : w < n) : 0 ≤ rk n wt w ∧ rk n wt w < n := by
  have a := (ct_r (P := rkB wt w) n).1
  have b := ct_lt (P := rkB wt w) (Q := fun _ => True) hw (fun _ _ _ => trivial) (by unfold rkB; omega) trivial
  have c := (ct_r (P := fun _ => True) n).2
  unfold rk; omega
theorem rk_sur {n : Nat} {wt : Nat → Int} {r : Nat} (hr : r < n) : ∃ w, w < n ∧ rk n wt w = r := by
  obtain ⟨w, hw, e⟩ := inj_surj n (fun w => (rk n wt w).toNat) (fun i hi => by have := rk_r (wt := wt) hi; show (rk n wt i).toNat < n; omega) (fun i hi j hj h => by
    have h' : (rk n wt i).toNat = (rk n wt j).toNat := h
    have a := rk_r (wt := wt) hi
    have b := rk_r (wt := wt) hj
    exact rk_inj (wt := wt) hi hj (by omega)) r hr
  have e' : (rk n wt w).toNat = r := e
  have a := rk_r (wt := wt) hw
  exact ⟨w, hw, by omega⟩
/-- a cloud, seen as settings and as words with their attributes -/
def vS (σ : Sto) (c : Nat) (k : Nat) : Int := if k = 0 then σ 1 c 2 else if k = 1 then σ 1 c 3 else if k = 2 then σ 1 c 4 else if k = 3 then σ 1 c 5 else if k = 4 then σ 1 c 6 else if k = 5 then σ 1 c 1 else σ 1 c 7
def vV (σ : Sto) (c : Nat) (w k : Nat) : Int := if k = 0 then σ 2 (en σ c w) 2 else if k < 11 then σ 10 (en σ c w) (k - 1) else if k < 14 then σ 2 (en σ c w) (k - 8) else if σ 0 (en σ c w) 0 = 1 then (if k = 18 then σ 0 (en σ c w) 1 else σ 0 (en σ c w) (k - 12)) else 0
def nS (S : Nat → Int) : Nat := (S 5).toNat
def wtV (V : Nat → Nat → Int) : Nat → Int := fun w => V w 11
noncomputable def rkV (S : Nat → Int) (V : Nat → Nat → Int) (w : Nat) : Int := rk (nS S) (wtV V) w
def szV (S : Nat → Int) (V : Nat → Nat → Int) (w : Nat) : Int := szF (nS S) (wtV V) (S 4) (V w 11)
def PosZ (S : Nat → Int) (z : Nat → Nat → Int) (l t w h : Int) : Prop := 0 ≤ l ∧ l + w ≤ S 0 ∧ 0 ≤ t ∧ t + h ≤ S 1 ∧ ∀ o, o < nS S → 0 < z o 2 → frB (S 2) l t w h (z o 0) (z o 1) (z o 2) (z o 3)
def StartZ (S : Nat → Int) (V z : Nat → Nat → Int) (g x y : Int) : Prop := (∃ o, o < nS S ∧ 0 < z o 2 ∧ V o 13 = g ∧ (∀ o', o' < nS S → 0 < z o' 2 → V o' 13 = g → o' = o ∨ rkB (wtV V) o' o) ∧ x = z o 0 + z o 2 / 2 ∧ y = z o 1 + z o 3 / 2) ∨ ((∀ o, o < nS S → 0 < z o 2 → V o 13 ≠ g) ∧ x = S 0 / 2 ∧ y = S 1 / 2)
def StayZ (S : Nat → Int) (V z : Nat → Nat → Int) (w : Nat) : Prop := 0 < V w 16 ∧ TryB (PosZ S z) (V w 12) (V w 0) (szV S V w) (V w 14 + V w 16 / 2) (V w 15 + V w 17 / 2) (V w 18)
def ChoZ (S : Nat → Int) (V z : Nat → Nat → Int) (w : Nat) (kp f x y u : Int) : Prop := (kp = 1 ∧ StayZ S V z w ∧ f = 1 ∧ x = V w 14 + V w 16 / 2 ∧ y = V w 15 + V w 17 / 2 ∧ u = V w 18) ∨ (¬ (kp = 1 ∧ StayZ S V z w) ∧ ∃ x0 y0, StartZ S V z (V w 13) x0 y0 ∧ SpR (PosZ S z) (V w 12) (V w 0) (szV S V w) (S 3) x0 y0 f x y u)
def bxF (x y u len s : Int) (k : Nat) : Int := if k = 0 then x - bwF u len s / 2 else if k = 1 then y - bhF u len s / 2 else if k = 2 then bwF u len s else if k = 3 then bhF u len s else if k = 4 then u else 0
def StepZ (S : Nat → Int) (V : Nat → Nat → Int) (kp : Int) (z z' : Nat → Nat → Int) (w : Nat) : Prop := ∃ f x y u, ChoZ S V z w kp f x y u ∧ bitOK f ∧ (∀ o k, o ≠ w → z' o k = z o k) ∧ ∀ k, z' w k = if f = 1 then bxF x y u (V w 0) (szV S V w) k else 0
def RunZ (S : Nat → Int) (V : Nat → Nat → Int) (kp : Int) (r : Nat) (zs : Nat → Nat → Nat → Int) : Prop := (∀ o k, zs 0 o k = 0) ∧ ∀ r', r' < r → ∀ w, w < nS S → rkV S V w = r' → StepZ S V kp (zs r') (zs (r' + 1)) w
def OutZ (S : Nat → Int) (V : Nat → Nat → Int) (kp : Int) (z : Nat → Nat → Int) : Prop := ∃ zs, RunZ S V kp (nS S) zs ∧ z = zs (nS S)
def MovZ (V z : Nat → Nat → Int) (w : Nat) : Prop := 0 < V w 16 ∧ ¬ (z w 2 = V w 16 ∧ z w 3 = V w 17 ∧ z w 0 = V w 14 ∧ z w 1 = V w 15)
theorem SpR_u {PB : Int → Int → Int → Int → Prop} {d len s st x0 y0 f x y u f' x' y' u' : Int} (h : SpR PB d len s st x0 y0 f x y u) (h' : SpR PB d len s st x0 y0 f' x' y' u') : f = f' ∧ (f = 1 → x = x' ∧ y = y' ∧ u = u') := by
  rcases h with ⟨e, t, ht, hb, hx, hy, hu, h0⟩ | ⟨e, hb⟩ <;> rcases h' with ⟨e', t', ht', hb', hx', hy', hu', h0'⟩ | ⟨e', hb'⟩
  · have f1 : FndB PB d len s (spv x0 y0 st t) := by
      subst hx hy
      rcases h0 with z | ⟨z, -⟩ <;> subst z
      · exact Or.inl hu
      · exact Or.inr hu
    have f2 : FndB PB d len s (spv x0 y0 st t') := by
      subst hx' hy'
      rcases h0' with z | ⟨z, -⟩ <;> subst z
      · exact Or.inl hu'
      · exact Or.inr hu'
    have et : t = t' := by
      apply Classical.byContradiction
      intro hne
      rcases (show t < t' ∨ t' < t by omega) with q | q
      · exact hb' t q f1
      · exact hb t' q f2
    subst et
    refine ⟨by omega, fun _ => ⟨by omega, by omega, ?_⟩⟩
    have ex : x = x' := by omega
    have ey : y = y' := by omega
    subst ex ey
    rcases h0 with z | ⟨z, q⟩ <;> rcases h0' with z' | ⟨z', q'⟩
    · omega
    · exact absurd (z ▸ hu) q'
    · exact absurd (z' ▸ hu') q
    · omega
  · exact absurd (by
      subst hx hy
      rcases h0 with z | ⟨z, -⟩ <;> subst z
      · exact Or.inl hu
      · exact Or.inr hu) (hb' t ht)
  · exact absurd (by
      subst hx' hy'
      rcases h0' with z | ⟨z, -⟩ <;> subst z
      · exact Or.inl hu'
      · exact Or.inr hu') (hb t' ht')
  · exact ⟨by omega, fun h => absurd h (by omega)⟩
theorem StartZ_u {S : Nat → Int} {V z : Nat → Nat → Int} {g x y x' y' : Int} (h : StartZ S V z g x y) (h' : StartZ S V z g x' y') : x = x' ∧ y = y' := by
  rcases h with ⟨o, ho, hz, hg, hb, hx, hy⟩ | ⟨hn, hx, hy⟩ <;> rcases h' with ⟨o', ho', hz', hg', hb', hx', hy'⟩ | ⟨hn', hx', hy'⟩
  · have e : o = o' := by
      rcases hb o' ho' hz' hg' with q | q
      · exact q.symm
      · rcases hb' o ho hz hg with p | p
        · exact p
        · unfold rkB at p q; omega
    subst e
    exact ⟨by omega, by omega⟩
  · exact absurd hg (hn' o ho hz)
  · exact absurd hg' (hn o' ho' hz')
  · exact ⟨by omega, by omega⟩
theorem ChoZ_u {S : Nat → Int} {V z : Nat → Nat → Int} {w : Nat} {kp f x y u f' x' y' u' : Int} (h : ChoZ S V z w kp f x y u) (h' : ChoZ S V z w kp f' x' y' u') : f = f' ∧ (f = 1 → x = x' ∧ y = y' ∧ u = u') := by
  rcases h with ⟨a, b, c, d, e, i⟩ | ⟨a, x0, y0, b, c⟩ <;> rcases h' with ⟨a', b', c', d', e', i'⟩ | ⟨a', x0', y0', b', c'⟩
  · exact ⟨by omega, fun _ => ⟨by omega, by omega, by omega⟩⟩
  · exact absurd ⟨a, b⟩ a'
  · exact absurd ⟨a', b'⟩ a
  · obtain ⟨e1, e2⟩ := StartZ_u b b'
    subst e1 e2
    exact SpR_u c c'
theorem StepZ_u {S : Nat → Int} {V z z1 z2 : Nat → Nat → Int} {w : Nat} {kp : Int} (h : StepZ S V kp z z1 w) (h' : StepZ S V kp z z2 w) : z1 = z2 := by
  obtain ⟨f, x, y, u, hc, hf, ho, hk⟩ := h
  obtain ⟨f', x', y', u', hc', hf', ho', hk'⟩ := h'
  obtain ⟨e, e1⟩ := ChoZ_u hc hc'
  subst e
  funext o k
  by_cases q : o = w
  · subst q
    rw [hk, hk']
    by_cases g : f = 1
    · obtain ⟨a, b, c⟩ := e1 g
      subst a b c
      rfl
    · rw [if_neg g, if_neg g]
  · rw [ho o k q, ho' o k q]
theorem RunZ_u {S : Nat → Int} {V : Nat → Nat → Int} {kp : Int} {r r' : Nat} {zs zs' : Nat → Nat → Nat → Int} (h : RunZ S V kp r zs) (h' : RunZ S V kp r' zs') : ∀ j, j ≤ r → j ≤ r' → j ≤ nS S → zs j = zs' j := by
  intro j
  induction j with
  | zero => intro _ _ _; funext o k; rw [h.1, h'.1]
  | succ j ih =>
    intro a b c
    obtain ⟨w, hw, e⟩ := rk_sur (wt := wtV V) (show j < nS S by omega)
    have p := h.2 j (by omega) w hw e
    have q := h'.2 j (by omega) w hw e
    rw [ih (by omega) (by omega) (by omega)] at p
    exact StepZ_u p q
theorem OutZ_u {S : Nat → Int} {V : Nat → Nat → Int} {kp : Int} {z z' : Nat → Nat → Int} (h : OutZ S V kp z) (h' : OutZ S V kp z') : z = z' := by
  obtain ⟨zs, a, b⟩ := h
  obtain ⟨zs', a', b'⟩ := h'
  rw [b, b', RunZ_u a a' _ (Nat.le_refl _) (Nat.le_refl _) (Nat.le_refl _)]
