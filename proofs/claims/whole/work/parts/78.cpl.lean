/-- the views agree: settings all seven, words up to their letters -/
def EqW (S : Nat → Int) (V : Nat → Nat → Int) (S' : Nat → Int) (V' : Nat → Nat → Int) : Prop := (∀ k, k < 7 → S' k = S k) ∧ VEq (nS S) 19 V V'
theorem eqw_n {S S' : Nat → Int} {V V' : Nat → Nat → Int} (h : EqW S V S' V') : nS S' = nS S := by unfold nS; rw [h.1 5 (by omega)]
theorem eqw_se {S S' : Nat → Int} {V V' : Nat → Nat → Int} (h : EqW S V S' V') : SEq S S' := fun k hk => h.1 k (by omega)
theorem eqw_k {S S' : Nat → Int} {V V' : Nat → Nat → Int} (h : EqW S V S' V') {w k : Nat} (hw : w < nS S) (h1 : 11 ≤ k) (h2 : k < 19) : V' w k = V w k := VEq_k h.2 hw h1 h2
theorem eqw_plcN {S S' : Nat → Int} {V V' : Nat → Nat → Int} (h : EqW S V S' V') : plcN S' V' = plcN S V := by
  unfold plcN
  rw [eqw_n h]
  exact ct_congr _ (fun w hw => by rw [eqw_k h hw (by omega) (by omega)])
theorem eqw_val {S S' : Nat → Int} {V V' : Nat → Nat → Int} (h : EqW S V S' V') {x : Int} (hx : 0 ≤ x ∧ x ≤ 7) : valV S' V' x = valV S V x := by
  unfold valV
  rw [eqw_plcN h, h.1 6 (by omega)]
  split
  · rfl
  · split
    · rfl
    · exact h.1 _ (by omega)
theorem eqw_wd {S S' : Nat → Int} {V V' : Nat → Nat → Int} (h : EqW S V S' V') {w : Nat} (hw : w < nS S) {x : Int} (hx : 0 ≤ x ∧ x ≤ 5) : wdV S' V' w x = wdV S V w x := by
  unfold wdV
  rw [VEq_0 h.2 hw, vq_rk (z := V) (eqw_se h) h.2 (by omega) hw, vq_sz (z := V) (eqw_se h) h.2 (by omega) hw]
  split
  · rfl
  · split
    · rfl
    · split
      · rfl
      · exact eqw_k h hw (by omega) (by omega)
theorem eqw_let {S S' : Nat → Int} {V V' : Nat → Nat → Int} (h : EqW S V S' V') {w k : Nat} (hw : w < nS S) (hk : (k : Int) < V w 0) (h10 : k < 10) : V' w (1 + k) = V w (1 + k) := h.2 w hw (1 + k) (Or.inr (Or.inl ⟨by omega, by omega, by omega⟩))
theorem eqw_plc {S S' : Nat → Int} {V V' : Nat → Nat → Int} (h : EqW S V S' V') {w : Nat} (hw : w < nS S) {x : Int} (hx : 0 ≤ x ∧ x ≤ 4) : plcV V' w x = plcV V w x := by
  unfold plcV
  rw [eqw_k h hw (k := 16) (by omega) (by omega), eqw_k h hw (k := 14 + x.toNat) (by omega) (by omega)]
theorem eqw_cv {S S' : Nat → Int} {V V' : Nat → Nat → Int} (h : EqW S V S' V') {w : Nat} (hw : w < nS S) {x y : Int} : cvV V' w x y ↔ cvV V w x y := by
  unfold cvV
  rw [eqw_k h hw (k := 14) (by omega) (by omega), eqw_k h hw (k := 15) (by omega) (by omega), eqw_k h hw (k := 16) (by omega) (by omega), eqw_k h hw (k := 17) (by omega) (by omega)]
theorem ff_c {P Q : Nat → Prop} {n : Nat} {r : Int} (h : ∀ i, i < n → (P i ↔ Q i)) (hf : FF P n r) : FF Q n r := by
  rcases hf with ⟨a, b⟩ | ⟨i, hi, a, b, c⟩
  · exact Or.inl ⟨a, fun i hi z => b i hi ((h i hi).mpr z)⟩
  · exact Or.inr ⟨i, hi, a, (h i hi).mp b, fun j hj z => c j hj ((h j (by omega)).mpr z)⟩
theorem ff_u {P : Nat → Prop} {n : Nat} {r r' : Int} (h : FF P n r) (h' : FF P n r') : r = r' := by
  rcases h with ⟨a, b⟩ | ⟨i, hi, a, b, c⟩ <;> rcases h' with ⟨a', b'⟩ | ⟨i', hi', a', b', c'⟩
  · omega
  · exact absurd b' (b i' hi')
  · exact absurd b (b' i hi)
  · have : i = i' := by
      apply Classical.byContradiction
      intro hne
      rcases (show i < i' ∨ i' < i by omega) with q | q
      · exact c' i q b
      · exact c i' q b'
    omega
theorem eqw_mt {S S' : Nat → Int} {V V' : Nat → Nat → Int} (h : EqW S V S' V') {a b : Nat} (ha : a < nS S) (hb : b < nS S) : mtV V' a b ↔ mtV V a b := by
  unfold mtV
  rw [eqw_k h ha (k := 14) (by omega) (by omega), eqw_k h ha (k := 15) (by omega) (by omega), eqw_k h ha (k := 16) (by omega) (by omega), eqw_k h ha (k := 17) (by omega) (by omega), eqw_k h hb (k := 14) (by omega) (by omega), eqw_k h hb (k := 15) (by omega) (by omega), eqw_k h hb (k := 16) (by omega) (by omega), eqw_k h hb (k := 17) (by omega) (by omega)]
theorem ctR_c {P Q : Nat → Prop} {a : Nat} : ∀ m : Nat, (∀ j, a ≤ j → j < a + m → (P j ↔ Q j)) → ctR P a m = ctR Q a m := by
  intro m
  induction m with
  | zero => intro _; rfl
  | succ m ih => intro h; show ctR P a m + bi (P (a + m)) = ctR Q a m + bi (Q (a + m)); rw [ih (fun j h1 h2 => h j h1 (by omega)), propext (h (a + m) (by omega) (by omega))]
theorem prs_c {P Q : Nat → Nat → Prop} {n : Nat} (h : ∀ i j, i < n → j < n → (P i j ↔ Q i j)) : ∀ i : Nat, i ≤ n → prs P n i = prs Q n i := by
  intro i
  induction i with
  | zero => intro _; rfl
  | succ i ih =>
    intro hi
    show prs P n i + ctR (P i) (i + 1) (n - (i + 1)) = prs Q n i + ctR (Q i) (i + 1) (n - (i + 1))
    rw [ih (by omega), ctR_c (n - (i + 1)) (fun j h1 h2 => h i j (by omega) (by omega))]
theorem eqw_prs {S S' : Nat → Int} {V V' : Nat → Nat → Int} (h : EqW S V S' V') : prs (mtV V') (nS S') (nS S') = prs (mtV V) (nS S) (nS S) := by
  rw [eqw_n h]
  exact prs_c (fun i j hi hj => eqw_mt h hi hj) _ (Nat.le_refl _)
theorem eqw_bth {S S' : Nat → Int} {V V' : Nat → Nat → Int} (h : EqW S V S' V') {g : Int} {a b : Nat} (ha : a < nS S) (hb : b < nS S) : bthV V' g a b ↔ bthV V g a b := by
  unfold bthV
  rw [eqw_k h ha (k := 13) (by omega) (by omega), eqw_k h ha (k := 16) (by omega) (by omega), eqw_k h hb (k := 13) (by omega) (by omega), eqw_k h hb (k := 16) (by omega) (by omega)]
theorem eqw_dst {S S' : Nat → Int} {V V' : Nat → Nat → Int} (h : EqW S V S' V') {a b : Nat} (ha : a < nS S) (hb : b < nS S) : dstV V' a b = dstV V a b := by
  unfold dstV
  rw [eqw_k h ha (k := 14) (by omega) (by omega), eqw_k h ha (k := 15) (by omega) (by omega), eqw_k h ha (k := 16) (by omega) (by omega), eqw_k h ha (k := 17) (by omega) (by omega), eqw_k h hb (k := 14) (by omega) (by omega), eqw_k h hb (k := 15) (by omega) (by omega), eqw_k h hb (k := 16) (by omega) (by omega), eqw_k h hb (k := 17) (by omega) (by omega)]
theorem eqw_max {S S' : Nat → Int} {V V' : Nat → Nat → Int} (h : EqW S V S' V') {g m : Int} (hm : MaxQ V' g (fun a b => a < b ∧ b < nS S') m) : MaxQ V g (fun a b => a < b ∧ b < nS S) m := by
  rw [eqw_n h] at hm
  obtain ⟨a, b, c⟩ := hm
  refine ⟨a, fun i j hij hb => ?_, ?_⟩
  · have := b i j hij ((eqw_bth h (by omega) hij.2).mpr hb)
    rw [eqw_dst h (by omega) hij.2] at this
    exact this
  · rcases c with c | ⟨i, j, hij, hb, he⟩
    · exact Or.inl c
    · exact Or.inr ⟨i, j, hij, (eqw_bth h (by omega) hij.2).mp hb, by rw [he, eqw_dst h (by omega) hij.2]⟩
theorem max_u {V : Nat → Nat → Int} {g m m' : Int} {Q : Nat → Nat → Prop} (h : MaxQ V g Q m) (h' : MaxQ V g Q m') : m = m' := by
  obtain ⟨a, b, c⟩ := h
  obtain ⟨a', b', c'⟩ := h'
  rcases c with c | ⟨i, j, hq, hb, he⟩ <;> rcases c' with c' | ⟨i', j', hq', hb', he'⟩
  · omega
  · have := b i' j' hq' hb'; omega
  · have := b' i j hq hb; omega
  · have := b i' j' hq' hb'; have := b' i j hq hb; omega
theorem eqw_cel {S S' : Nat → Int} {V V' : Nat → Nat → Int} (h : EqW S V S' V') : ∀ r : Nat, celN S' V' r = celN S V r := by
  intro r
  induction r with
  | zero => rfl
  | succ r ih =>
    show celN S' V' r + rowN S' V' r = celN S V r + rowN S V r
    rw [ih]
    unfold rowN
    rw [h.1 0 (by omega)]
    congr 1
    apply ct_congr
    intro x _
    rw [eqw_n h]
    constructor
    · rintro ⟨w, hw, hc⟩; exact ⟨w, hw, (eqw_cv h hw).mp hc⟩
    · rintro ⟨w, hw, hc⟩; exact ⟨w, hw, (eqw_cv h hw).mpr hc⟩
theorem eqw_ex {S S' : Nat → Int} {V V' : Nat → Nat → Int} (h : EqW S V S' V') {x : Int} : ∀ n : Nat, n ≤ nS S → exV V' x n = exV V x n := by
  intro n
  induction n with
  | zero => intro _; rfl
  | succ n ih =>
    intro hn
    have hw : n < nS S := by omega
    have es : sdV V' n x = sdV V n x := by
      unfold sdV
      rw [eqw_k h hw (k := 14) (by omega) (by omega), eqw_k h hw (k := 15) (by omega) (by omega), eqw_k h hw (k := 16) (by omega) (by omega), eqw_k h hw (k := 17) (by omega) (by omega)]
    show (if 0 < V' n 16 then (if exV V' x n = -1 then sdV V' n x else if x ≤ 2 then min (exV V' x n) (sdV V' n x) else max (exV V' x n) (sdV V' n x)) else exV V' x n) = (if 0 < V n 16 then (if exV V x n = -1 then sdV V n x else if x ≤ 2 then min (exV V x n) (sdV V n x) else max (exV V x n) (sdV V n x)) else exV V x n)
    rw [ih (by omega), es, eqw_k h hw (k := 16) (by omega) (by omega)]
theorem eqw_ext {S S' : Nat → Int} {V V' : Nat → Nat → Int} (h : EqW S V S' V') {x : Int} : extV S' V' x = extV S V x := by
  unfold extV
  rw [eqw_cel h, h.1 1 (by omega), eqw_n h, eqw_ex h _ (Nat.le_refl _)]
theorem hs1_c {f g : Nat → Int} {h : Int} : ∀ n : Nat, (∀ i, i < n → f i = g i) → hs1 f h n = hs1 g h n := by
  intro n
  induction n with
  | zero => intro _; rfl
  | succ n ih => intro e; show 31 * hs1 f h n + f n = 31 * hs1 g h n + g n; rw [ih (fun i hi => e i (by omega)), e n (by omega)]
theorem eqw_hw {S S' : Nat → Int} {V V' : Nat → Nat → Int} (h : EqW S V S' V') {w : Nat} (hw : w < nS S) (h10 : V w 0 ≤ 10) {x : Int} : hwV S' V' x w = hwV S V x w := by
  unfold hwV
  rw [hs1_c (f := fun k => wdV S' V' w k) (g := fun k => wdV S V w k) 6 (fun i hi => eqw_wd h hw (by omega)), VEq_0 h.2 hw, hs1_c (f := fun k => V' w (1 + k)) (g := fun k => V w (1 + k)) (V w 0).toNat (fun i hi => eqw_let h hw (by omega) (by omega)), hs1_c (f := fun k => plcV V' w k) (g := fun k => plcV V w k) 5 (fun i hi => eqw_plc h hw (by omega))]
theorem eqw_hn {S S' : Nat → Int} {V V' : Nat → Nat → Int} (h : EqW S V S' V') (h10 : ∀ w, w < nS S → V w 0 ≤ 10) {x : Int} : ∀ n : Nat, n ≤ nS S → hwN S' V' x n = hwN S V x n := by
  intro n
  induction n with
  | zero => intro _; rfl
  | succ n ih =>
    intro hn
    show hwV S' V' (hwN S' V' x n) n = hwV S V (hwN S V x n) n
    rw [ih (by omega), eqw_hw h (by omega) (h10 n (by omega))]
theorem eqw_dg {S S' : Nat → Int} {V V' : Nat → Nat → Int} (h : EqW S V S' V') (h10 : ∀ w, w < nS S → V w 0 ≤ 10) {t c : Int} : dgV S' V' t c = dgV S V t c := by
  unfold dgV
  rw [hs1_c (f := fun k => valV S' V' k) (g := fun k => valV S V k) 8 (fun i hi => eqw_val h (by omega)), eqw_n h, eqw_hn h h10 _ (Nat.le_refl _)]
  have e := eqw_prs h
  rw [eqw_n h] at e
  rw [e, hs1_c (f := fun k => extV S' V' k) (g := fun k => extV S V k) 5 (fun i hi => eqw_ext h)]
theorem eqw_mov {S S' : Nat → Int} {V V' z : Nat → Nat → Int} (h : EqW S V S' V') : ct (MovZ V' z) (nS S') = ct (MovZ V z) (nS S) := by
  rw [eqw_n h]
  apply ct_congr
  intro w hw
  unfold MovZ
  rw [eqw_k h hw (k := 14) (by omega) (by omega), eqw_k h hw (k := 15) (by omega) (by omega), eqw_k h hw (k := 16) (by omega) (by omega), eqw_k h hw (k := 17) (by omega) (by omega)]
theorem eqw_out {S S' : Nat → Int} {V V' z : Nat → Nat → Int} (h : EqW S V S' V') {kp : Int} : OutZ S' V' kp z ↔ OutZ S V kp z := out_iff (m := 19) (eqw_se h) h.2 (by omega) (fun _ => by omega)
theorem eqw_st {S S' : Nat → Int} {V V' : Nat → Nat → Int} (h : EqW S V S' V') {a : Nat} {x : Int} (ha : a ≠ 5) : EqW (stS S a x) V (stS S' a x) V' := by
  refine ⟨fun k hk => ?_, ?_⟩
  · unfold stS; split
    · rfl
    · exact h.1 k hk
  · rw [stS_n ha]; exact h.2
theorem eqw_mb {S S' : Nat → Int} {V V' : Nat → Nat → Int} (h : EqW S V S' V') {w : Nat} {x : Int} : EqW S (mbV V w x) S' (mbV V' w x) := by
  refine ⟨h.1, fun o ho k hk => ?_⟩
  have e0 : mbV V w x o 0 = V o 0 := by unfold mbV; rw [if_neg (by omega)]
  rw [e0] at hk
  unfold mbV
  split
  · rfl
  · exact h.2 o ho k hk
theorem eqw_nar {S S' : Nat → Int} {V V' : Nat → Nat → Int} (h : EqW S V S' V') {r : Int} (hr : NarQ S' V' r) : NarQ S V r := by
  obtain ⟨i, hf, e⟩ := hr
  refine ⟨i, ff_c (fun j _ => ?_) hf, e⟩
  unfold NarP
  rw [eqw_n h]
  constructor
  · rintro ⟨z, a, b⟩; exact ⟨z, (eqw_out (eqw_st h (by omega))).mp a, b⟩
  · rintro ⟨z, a, b⟩; exact ⟨z, (eqw_out (eqw_st h (by omega))).mpr a, b⟩
theorem nar_u {S : Nat → Int} {V : Nat → Nat → Int} {r r' : Int} (h : NarQ S V r) (h' : NarQ S V r') : r = r' := by
  obtain ⟨i, a, b⟩ := h
  obtain ⟨i', a', b'⟩ := h'
  have := ff_u a a'
  subst this
  rw [b, b']
theorem eqw_bst {S S' : Nat → Int} {V V' : Nat → Nat → Int} (h : EqW S V S' V') {r : Int} (hr : BstQ S' V' r) : BstQ S V r := by
  obtain ⟨f, a, e, a1, a2, b, c, d⟩ := hr
  refine ⟨f, a, e, a1, a2, fun j h1 h2 => ?_, c, d⟩
  obtain ⟨z, p, q⟩ := b j h1 h2
  exact ⟨z, (eqw_out (eqw_st h (by omega))).mp p, by rw [q, eqw_n h]⟩
theorem bst_u {S : Nat → Int} {V : Nat → Nat → Int} {r r' : Int} (h : BstQ S V r) (h' : BstQ S V r') : r = r' := by
  obtain ⟨f, a, e, a1, a2, b, c, d⟩ := h
  obtain ⟨f', a', e', a1', a2', b', c', d'⟩ := h'
  have ef : ∀ j, 1 ≤ j → j < 5 → f j = f' j := by
    intro j h1 h2
    obtain ⟨z, p, q⟩ := b j h1 h2
    obtain ⟨z', p', q'⟩ := b' j h1 h2
    have := OutZ_u p p'
    subst this
    rw [q, q']
  have : a = a' := by
    apply Classical.byContradiction
    intro hne
    have x := ef a a1 a2
    have y := ef a' a1' a2'
    rcases (show a < a' ∨ a' < a by omega) with q | q
    · have p1 := d' a a1 q
      have p2 := c a' a1' a2'
      omega
    · have p1 := d a' a1' q
      have p2 := c' a a1 a2
      omega
  omega
