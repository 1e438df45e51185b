/-- two views agree on the first n words, up to attribute m -/
def VEq (n m : Nat) (V V' : Nat → Nat → Int) : Prop := ∀ w : Nat, w < n → ∀ k : Nat, (k = 0 ∨ (1 ≤ k ∧ k < 11 ∧ (k : Int) - 1 < V w 0) ∨ (11 ≤ k ∧ k < m)) → V' w k = V w k
theorem VEq_0 {n m : Nat} {V V' : Nat → Nat → Int} (h : VEq n m V V') {w : Nat} (hw : w < n) : V' w 0 = V w 0 := h w hw 0 (Or.inl rfl)
theorem VEq_k {n m : Nat} {V V' : Nat → Nat → Int} (h : VEq n m V V') {w k : Nat} (hw : w < n) (h1 : 11 ≤ k) (h2 : k < m) : V' w k = V w k := h w hw k (Or.inr (Or.inr ⟨h1, h2⟩))
theorem VEq_s {n m : Nat} {V V' : Nat → Nat → Int} (h : VEq n m V V') : VEq n m V' V := fun w hw k hk => (h w hw k (by rw [VEq_0 h hw] at hk; exact hk)).symm
theorem VEq_m {n m m' : Nat} {V V' : Nat → Nat → Int} (h : VEq n m V V') (hm : m' ≤ m) : VEq n m' V V' := fun w hw k hk => h w hw k (by omega)
theorem rk_congr {n : Nat} {wt wt' : Nat → Int} {w : Nat} (h : ∀ i, i < n → wt' i = wt i) (hw : w < n) : rk n wt' w = rk n wt w := ct_congr n (fun i hi => by unfold rkB; rw [h i hi, h w hw])
theorem mnF_congr {wt wt' : Nat → Int} : ∀ n : Nat, (∀ i, i < n → wt' i = wt i) → mnF wt' n = mnF wt n := by
  intro n
  induction n with
  | zero => intro _; rfl
  | succ n ih => intro h; show min (mnF wt' n) (wt' n) = min (mnF wt n) (wt n); rw [ih (fun i hi => h i (by omega)), h n (by omega)]
theorem mxF_congr {wt wt' : Nat → Int} : ∀ n : Nat, (∀ i, i < n → wt' i = wt i) → mxF wt' n = mxF wt n := by
  intro n
  induction n with
  | zero => intro _; rfl
  | succ n ih => intro h; show max (mxF wt' n) (wt' n) = max (mxF wt n) (wt n); rw [ih (fun i hi => h i (by omega)), h n (by omega)]
/-- settings agree but for what was moved -/
def SEq (S S' : Nat → Int) : Prop := ∀ k, k < 6 → S' k = S k
theorem SEq_n {S S' : Nat → Int} (h : SEq S S') : nS S' = nS S := by unfold nS; rw [h 5 (by omega)]
theorem vq_rk {S S' : Nat → Int} {V V' z : Nat → Nat → Int} {m : Nat} (hS : SEq S S') (hV : VEq (nS S) m V V') (hm : 14 ≤ m) {w : Nat} (hw : w < nS S) : rkV S' V' w = rkV S V w := by
  unfold rkV
  rw [SEq_n hS]
  exact rk_congr (fun i hi => VEq_k hV hi (by omega) (by omega)) hw
theorem vq_sz {S S' : Nat → Int} {V V' z : Nat → Nat → Int} {m : Nat} (hS : SEq S S') (hV : VEq (nS S) m V V') (hm : 14 ≤ m) {w : Nat} (hw : w < nS S) : szV S' V' w = szV S V w := by
  unfold szV szF
  rw [SEq_n hS, hS 4 (by omega), VEq_k hV hw (by omega) (by omega), mnF_congr (wt := wtV V) (wt' := wtV V') (nS S) (fun i hi => VEq_k hV hi (by omega) (by omega)), mxF_congr (wt := wtV V) (wt' := wtV V') (nS S) (fun i hi => VEq_k hV hi (by omega) (by omega))]
theorem vq_pos {S S' : Nat → Int} {z : Nat → Nat → Int} (hS : SEq S S') : PosZ S' z = PosZ S z := by
  funext l t w h
  unfold PosZ
  rw [SEq_n hS, hS 0 (by omega), hS 1 (by omega), hS 2 (by omega)]
theorem vq_start {S S' : Nat → Int} {V V' z : Nat → Nat → Int} {m : Nat} (hS : SEq S S') (hV : VEq (nS S) m V V') (hm : 14 ≤ m) {g x y : Int} (h : StartZ S V z g x y) : StartZ S' V' z g x y := by
  unfold StartZ
  rw [SEq_n hS, hS 0 (by omega), hS 1 (by omega)]
  rcases h with ⟨o, ho, h1, h2, h3, h4⟩ | ⟨h1, h2⟩
  · refine Or.inl ⟨o, ho, h1, by rw [VEq_k hV ho (by omega) (by omega)]; exact h2, fun o' ho' a b => ?_, h4⟩
    rw [VEq_k hV ho' (by omega) (by omega)] at b
    rcases h3 o' ho' a b with q | q
    · exact Or.inl q
    · right
      unfold rkB wtV at q ⊢
      rw [VEq_k hV ho (by omega) (by omega), VEq_k hV ho' (by omega) (by omega)]
      exact q
  · exact Or.inr ⟨fun o ho a => by rw [VEq_k hV ho (by omega) (by omega)]; exact h1 o ho a, h2⟩
theorem vq_cho {S S' : Nat → Int} {V V' z : Nat → Nat → Int} {m : Nat} (hS : SEq S S') (hV : VEq (nS S) m V V') (hm : 14 ≤ m) {w : Nat} {kp f x y u : Int} (hk : kp = 1 → 19 ≤ m) (hw : w < nS S) (h : ChoZ S V z w kp f x y u) : ChoZ S' V' z w kp f x y u := by
  have stay : kp = 1 → (StayZ S' V' z w ↔ StayZ S V z w) := by
    intro k1
    have h19 := hk k1
    unfold StayZ
    rw [vq_pos hS, vq_sz (z := z) hS hV hm hw, VEq_0 hV hw, VEq_k hV hw (k := 12) (by omega) (by omega), VEq_k hV hw (k := 14) (by omega) (by omega), VEq_k hV hw (k := 15) (by omega) (by omega), VEq_k hV hw (k := 16) (by omega) (by omega), VEq_k hV hw (k := 17) (by omega) (by omega), VEq_k hV hw (k := 18) (by omega) (by omega)]
  rcases h with ⟨a, b, d, e, g, i⟩ | ⟨a, x0, y0, b, d⟩
  · have h19 := hk a
    refine Or.inl ⟨a, (stay a).mpr b, d, ?_, ?_, ?_⟩
    · rw [VEq_k hV hw (k := 14) (by omega) (by omega), VEq_k hV hw (k := 16) (by omega) (by omega)]; exact e
    · rw [VEq_k hV hw (k := 15) (by omega) (by omega), VEq_k hV hw (k := 17) (by omega) (by omega)]; exact g
    · rw [VEq_k hV hw (k := 18) (by omega) (by omega)]; exact i
  · refine Or.inr ⟨fun q => a ⟨q.1, (stay q.1).mp q.2⟩, x0, y0, ?_, ?_⟩
    · rw [VEq_k hV hw (k := 13) (by omega) (by omega)]; exact vq_start hS hV hm b
    · rw [vq_pos hS, vq_sz (z := z) hS hV hm hw, VEq_0 hV hw, VEq_k hV hw (k := 12) (by omega) (by omega), hS 3 (by omega)]; exact d
theorem vq_step {S S' : Nat → Int} {V V' z : Nat → Nat → Int} {m : Nat} (hS : SEq S S') (hV : VEq (nS S) m V V') (hm : 14 ≤ m) {w : Nat} {kp : Int} {z' : Nat → Nat → Int} (hk : kp = 1 → 19 ≤ m) (hw : w < nS S) (h : StepZ S V kp z z' w) : StepZ S' V' kp z z' w := by
  obtain ⟨f, x, y, u, a, b, d, e⟩ := h
  refine ⟨f, x, y, u, vq_cho hS hV hm hk hw a, b, d, fun k => ?_⟩
  rw [vq_sz (z := z) hS hV hm hw, VEq_0 hV hw]
  exact e k
theorem vq_out {S S' : Nat → Int} {V V' z : Nat → Nat → Int} {m : Nat} (hS : SEq S S') (hV : VEq (nS S) m V V') (hm : 14 ≤ m) {kp : Int} (hk : kp = 1 → 19 ≤ m) (h : OutZ S V kp z) : OutZ S' V' kp z := by
  obtain ⟨zs, ⟨a, b⟩, e⟩ := h
  refine ⟨zs, ⟨a, fun r hr w hw hrk => ?_⟩, by rw [SEq_n hS]; exact e⟩
  rw [SEq_n hS] at hr hw
  rw [vq_rk (z := z) hS hV hm hw] at hrk
  exact vq_step hS hV hm hk hw (b r hr w hw hrk)
theorem out_iff {S S' : Nat → Int} {V V' z : Nat → Nat → Int} {m : Nat} {kp : Int} (hS : SEq S S') (hV : VEq (nS S) m V V') (hm : 14 ≤ m) (hk : kp = 1 → 19 ≤ m) : OutZ S' V' kp z ↔ OutZ S V kp z :=
  ⟨fun h => vq_out (fun k hk => (hS k hk).symm) (by rw [SEq_n hS]; exact VEq_s hV) hm hk h, fun h => vq_out hS hV hm hk h⟩
