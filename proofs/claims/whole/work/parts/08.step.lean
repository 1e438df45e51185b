def lwA : List Cond := lw_tbl.filter goodWord
def fcl (ci : Nat) : vw_C := vwCl.getD ci (RX0, TX0, 0)
def inR (x : Int) : Prop := -2147483648 ≤ x ∧ x < 2147483648
def inL (x : Int) : Prop := -9223372036854775808 ≤ x ∧ x < 9223372036854775808
/-- a field's link, in the class own -/
def FieldOK (own : String) (idx ci k : Nat) : Prop := ci < 9 ∧ k < nf ci ∧ Cond.fieldLink own idx ((fcl ci).2.1 k).1 ((fcl ci).2.1 k).2.1 ((fcl ci).2.1 k).2.2.1 ∈ lwA
abbrev FtT : Type := List (Nat × (Nat × Nat))
/-- a call: its pool number; how many arguments; the receiver's class + 1 (0: static); how many exceptions it may make; what it does -/
abbrev CsT : Type := List (Nat × (Nat × Nat × Nat × Spec))
/-- an outcome told by the answer r and the world σ' behind it -/
def cvo (Γ : Ga) (r : Option AV) : Option Value := r.map (cv Γ)
def Qr (Γ : Ga) (K : Option AV → Sto → Prop) : Array Value → State → Outcome → State → Prop := fun _ st oc t => (∃ (r : Option AV) (σ' : Sto), oc = .returned (cvo Γ r) ∧ K r σ' ∧ WA Γ σ' t t.heap) ∧ va_F (gA Γ) st t
def Xr (Γ : Ga) (KX : Nat → Sto → Prop) : String → State → State → Prop := fun E st t => (∃ (n : Nat) (σ' : Sto), E = exn n ∧ KX n σ' ∧ WA Γ σ' t t.heap) ∧ va_F (gA Γ) st t
def wsy (y : MethodName) (cc : ByteArray) (maxL : Nat) (ret : Option FieldType) : List Cond := Cond.code y cc maxL ret :: lwA
def Pr (Γ : Ga) (a : List AV) (σ : Sto) : Array Value → State → Prop := va_Pc (a.map (cv Γ)) (fun U => WA Γ σ U U.heap ∧ WS Γ U)
/-- a method's contract -/
def Cn (l : Launch) (Γ : Ga) (y : MethodName) (ws : List Cond) (rm : Room) (mc : Nat) (sp : Spec) : Prop := ∀ (a : List AV) (σ : Sto) (K : Option AV → Sto → Prop) (KX : Nat → Sto → Prop), sp a σ K KX → vx_Met l y ws rm (Pr Γ a σ) (Qr Γ K) (Xr Γ KX) mc (6 * mc) (gA Γ)
def asL (Γ : Ga) : Nat → List AV → List (Nat × Value)
  | _, [] => []
  | j, v :: r => match v with
    | .inr (.inr (.inr (.inr _))) => asL Γ (j + 1) r
    | v => (j, cv Γ v) :: asL Γ (j + 1) r
/-- what a junk place is -/
def nj (v : AV) : Prop := match v with
  | .inr (.inr (.inr (.inr _))) => False
  | _ => True
theorem asL_mem {Γ : Ga} {w : Value} : ∀ (ls : List AV) (j i : Nat), (i, w) ∈ asL Γ j ls ↔ ∃ (k : Nat) (v : AV), i = j + k ∧ ls[k]? = some v ∧ nj v ∧ w = cv Γ v := by
  intro ls
  induction ls with
  | nil => intro j i; simp [asL]
  | cons v r ih =>
    intro j i
    have hr : (i, w) ∈ asL Γ (j + 1) r ↔ ∃ (k : Nat) (v' : AV), i = j + (k + 1) ∧ (v :: r)[k + 1]? = some v' ∧ nj v' ∧ w = cv Γ v' := by
      rw [ih (j + 1) i]
      constructor
      · rintro ⟨k, v', h1, h2, h3⟩; exact ⟨k, v', by omega, by simpa using h2, h3⟩
      · rintro ⟨k, v', h1, h2, h3⟩; exact ⟨k, v', by omega, by simpa using h2, h3⟩
    by_cases hv : nj v
    · have e : asL Γ j (v :: r) = (j, cv Γ v) :: asL Γ (j + 1) r := by
        rcases v with x | x | x | x | x <;> first | rfl | exact absurd hv id
      rw [e, List.mem_cons, hr]
      constructor
      · rintro (h | ⟨k, v', h⟩)
        · cases h; exact ⟨0, v, rfl, rfl, hv, rfl⟩
        · exact ⟨k + 1, v', h⟩
      · rintro ⟨k, v', h1, h2, h3⟩
        cases k with
        | zero => left; cases h2; rw [h1, h3.2]; rfl
        | succ k => right; exact ⟨k, v', h1, h2, h3⟩
    · have e : asL Γ j (v :: r) = asL Γ (j + 1) r := by
        rcases v with x | x | x | x | x <;> first | rfl | exact absurd trivial hv
      rw [e, hr]
      constructor
      · rintro ⟨k, v', h⟩; exact ⟨k + 1, v', h⟩
      · rintro ⟨k, v', h1, h2, h3⟩
        cases k with
        | zero => cases h2; exact absurd h3.1 hv
        | succ k => exact ⟨k, v', h1, h2, h3⟩
theorem asL_get {Γ : Ga} {la : Array Slot} {n k : Nat} {ls : List AV} {v : AV} (h : lv_has la n (asL Γ 0 ls)) (hk : ls[k]? = some v) (hv : nj v) : la[k]? = some (.val (cv Γ v)) :=
  h.2.2 (k, cv Γ v) ((asL_mem ls 0 k).mpr ⟨k, v, (Nat.zero_add k).symm, hk, hv, rfl⟩)
/-- no long and no double lies at the place before k -/
def nc2 (ls : List AV) (k : Nat) : Prop := k = 0 ∨ match ls[k - 1]? with
  | some (.inr (.inl _)) => False
  | some (.inr (.inr (.inr (.inl _)))) => False
  | _ => True
theorem asL_set1 {Γ : Ga} {ls : List AV} {k : Nat} {v : AV} (h2 : nc2 ls k) : ∀ q ∈ asL Γ 0 (ls.set k v), q ∈ (k, cv Γ v) :: (asL Γ 0 ls).filter (fun q => !(q.1 == k) && !(q.1 + 1 == k && q.2.category == 2)) := by
  rintro ⟨i, w⟩ hq
  obtain ⟨j, v', h0, h1, h3, h4⟩ := (asL_mem _ 0 i).mp hq
  have hij : i = j := by omega
  subst hij
  by_cases hik : i = k
  · subst hik
    rw [List.getElem?_set] at h1
    simp only [if_true] at h1
    split at h1
    · cases h1; rw [h4]; exact List.mem_cons_self
    · cases h1
  · rw [List.getElem?_set_ne (Ne.symm hik)] at h1
    refine List.mem_cons_of_mem _ (List.mem_filter.mpr ⟨(asL_mem ls 0 i).mpr ⟨i, v', by omega, h1, h3, h4⟩, ?_⟩)
    have hb : (i == k) = false := by simp [hik]
    simp only [hb, Bool.not_false, Bool.true_and, Bool.not_eq_true', Bool.and_eq_false_iff]
    by_cases hi1 : i + 1 = k
    · right
      rcases h2 with h2 | h2
      · omega
      · have e : ls[k - 1]? = some v' := by rw [← hi1]; simpa using h1
        rw [e] at h2
        rcases v' with x | x | x | x | x <;> first | exact absurd h2 id | (rw [h4]; rfl) | exact absurd h3 id
    · left; simp [hi1]
theorem asL_set2 {Γ : Ga} {ls : List AV} {k : Nat} {v : AV} (h2 : nc2 ls k) : ∀ q ∈ asL Γ 0 ((ls.set k v).set (k + 1) vj), q ∈ (k, cv Γ v) :: (asL Γ 0 ls).filter (fun q => !(q.1 == k) && (!(q.1 == k + 1) && !(q.1 + 1 == k && q.2.category == 2))) := by
  rintro ⟨i, w⟩ hq
  obtain ⟨j, v', h0, h1, h3, h4⟩ := (asL_mem _ 0 i).mp hq
  have hij : i = j := by omega
  subst hij
  have hk1 : i ≠ k + 1 := by
    intro e
    subst e
    rw [List.getElem?_set] at h1
    simp only [if_true] at h1
    split at h1
    · cases h1; exact h3
    · cases h1
  rw [List.getElem?_set_ne (Ne.symm hk1)] at h1
  by_cases hik : i = k
  · subst hik
    rw [List.getElem?_set] at h1
    simp only [if_true] at h1
    split at h1
    · cases h1; rw [h4]; exact List.mem_cons_self
    · cases h1
  · rw [List.getElem?_set_ne (Ne.symm hik)] at h1
    refine List.mem_cons_of_mem _ (List.mem_filter.mpr ⟨(asL_mem ls 0 i).mpr ⟨i, v', by omega, h1, h3, h4⟩, ?_⟩)
    have hb : (i == k) = false := by simp [hik]
    have hb1 : (i == k + 1) = false := by simp [hk1]
    simp only [hb, hb1, Bool.not_false, Bool.true_and, Bool.not_eq_true', Bool.and_eq_false_iff]
    by_cases hi1 : i + 1 = k
    · right
      rcases h2 with h2 | h2
      · omega
      · have e : ls[k - 1]? = some v' := by rw [← hi1]; simpa using h1
        rw [e] at h2
        rcases v' with x | x | x | x | x <;> first | exact absurd h2 id | (rw [h4]; rfl) | exact absurd h3 id
    · left; simp [hi1]
theorem lv_less {la : Array Slot} {n : Nat} {l l' : List (Nat × Value)} (h : lv_has la n l) (hl : ∀ q ∈ l', q ∈ l) : lv_has la n l' := ⟨h.1, h.2.1, fun q hq => h.2.2 q (hl q hq)⟩
