/-! THE MACHINE BY LOGICAL NAMES: an object is (class, number); what all slots hold is one function Sto. -/
abbrev AV : Type := Int ⊕ (Int ⊕ ((Nat × Nat) ⊕ (UInt64 ⊕ Unit)))
def vi (x : Int) : AV := Sum.inl x
def vl (x : Int) : AV := Sum.inr (Sum.inl x)
def vr (c i : Nat) : AV := Sum.inr (Sum.inr (Sum.inl (c, i)))
def vd (d : UInt64) : AV := Sum.inr (Sum.inr (Sum.inr (Sum.inl d)))
def vj : AV := Sum.inr (Sum.inr (Sum.inr (Sum.inr ())))
abbrev Sto : Type := Nat → Nat → Nat → Int
abbrev Spec : Type := List AV → Sto → (Option AV → Sto → Prop) → (Nat → Sto → Prop) → Prop
abbrev Ga : Type := va_G × (Nat → ClassId) × (Nat → Nat → Nat) × Nat
def cv (Γ : Ga) (v : AV) : Value := match v with
  | .inl x => .int (Int32.ofInt x)
  | .inr (.inl x) => .long (Int64.ofInt x)
  | .inr (.inr (.inl q)) => .ref (Γ.2.2.1 q.1 q.2)
  | .inr (.inr (.inr (.inl d))) => .double d
  | .inr (.inr (.inr (.inr _))) => .null
def up3 (σ : Sto) (c i k : Nat) (x : Int) : Sto := fun c' i' k' => if c' = c ∧ i' = i ∧ k' = k then x else σ c' i' k'
def cnt (c : Nat) : Nat := match c with
  | 0 => 145 | 1 => 6 | 2 => 144 | 3 => 1 | 4 => 1 | 5 => 1 | 6 => 1 | 7 => 1 | 8 => 1 | 9 => 6 | 10 => 144 | 11 => 1 | 12 => 12 | 13 => 1 | 14 => 1 | _ => 0
def alen (c i : Nat) : Nat := match c with
  | 9 => 24 | 10 => 10 | 11 => 4 | 13 => 80 | 14 => 1
  | 12 => match i with
    | 0 => 24 | 1 => 24 | 2 => 200 | 3 => 463 | 4 => 1852 | 5 => 463 | 11 => 200 | _ => 24
  | _ => 0
def nf (c : Nat) : Nat := match c with
  | 0 => 6 | 1 => 8 | 2 => 6 | 3 => 2 | 4 => 6 | 5 => 7 | 6 => 4 | 7 => 6 | 8 => 14 | _ => 0
/-- what a field holds -/
def fg (σ : Sto) (c i k : Nat) : AV := match c with
  | 1 => (match k with | 0 => vr 9 i | k => vi (σ 1 i k))
  | 2 => (match k with | 0 => vr 10 i | 1 => vr 0 i | k => vi (σ 2 i k))
  | 3 => (match k with | 0 => vr 11 0 | k => vi (σ 3 i k))
  | 4 => (match k with | 0 => vr 12 0 | 1 => vr 12 1 | 2 => vr 0 144 | 3 => vr 5 0 | k => vi (σ 4 i k))
  | 6 => (match k with | 0 => vr 12 2 | k => vi (σ 6 i k))
  | 7 => (match k with | 0 => vr 6 0 | 1 => vr 1 0 | 2 => vr 1 1 | 3 => vr 3 0 | 4 => vr 4 0 | _ => vr 13 0)
  | 8 => (match k with | 0 => vr 12 3 | 1 => vr 12 4 | 2 => vr 12 5 | 5 => vr 12 6 | 6 => vr 12 7 | 7 => vr 12 8 | 8 => vr 12 9 | 9 => vr 12 10 | 11 => vr 12 11 | k => vi (σ 8 i k))
  | c => vi (σ c i k)
/-- a field's kind: 0 a number, 1 a truth value, 2 a reference (never written again) -/
def fk (c k : Nat) : Nat := match c with
  | 0 => (match k with | 0 => 1 | 1 => 1 | _ => 0)
  | 1 => (match k with | 0 => 2 | _ => 0)
  | 2 => (match k with | 0 => 2 | 1 => 2 | _ => 0)
  | 3 => (match k with | 0 => 2 | _ => 0)
  | 4 => (match k with | 0 => 2 | 1 => 2 | 2 => 2 | 3 => 2 | _ => 0)
  | 5 => (match k with | 6 => 1 | _ => 0)
  | 6 => (match k with | 0 => 2 | _ => 0)
  | 7 => 2
  | 8 => (match k with | 0 => 2 | 1 => 2 | 2 => 2 | 5 => 2 | 6 => 2 | 7 => 2 | 8 => 2 | 9 => 2 | 11 => 2 | _ => 0)
  | _ => 2
def cel (Γ : Ga) (σ : Sto) (c i : Nat) : va_E := match c with
  | 9 => .inl (Γ.2.1 3, 24, .inr (.inr (.inr (.inr (fun k => some (Γ.2.2.1 2 (σ 9 i k).toNat))))))
  | 10 => .inl (Γ.2.1 0, 10, .inl (fun k => Int32.ofInt (σ 10 i k)))
  | 11 => .inl (Γ.2.1 2, 4, .inr (.inr (.inr (.inr (fun k => some (Γ.2.2.1 1 (σ 11 i k).toNat))))))
  | 12 => .inl (Γ.2.1 0, alen 12 i, .inl (fun k => Int32.ofInt (σ 12 i k)))
  | 13 => .inl (Γ.2.1 1, 80, .inl (fun k => Int32.ofInt (σ 13 i k)))
  | 14 => .inl (Γ.2.1 4, 1, .inr (.inl (fun k => Int64.ofInt (σ 14 i k))))
  | c => .inr (c, (List.range (nf c)).map fun k => cv Γ (fg σ c i k))
def dom : List (Nat × Nat) := (List.range 15).flatMap fun c => (List.range (cnt c)).map fun i => (c, i)
def wsl (Γ : Ga) (σ : Sto) : va_W := dom.map fun q => (Γ.2.2.1 q.1 q.2, cel Γ σ q.1 q.2)
def gA (Γ : Ga) : Nat → Prop := fun q => Γ.2.2.2 ≤ q
def tyl (Γ : Ga) : List (ClassId × FieldType) := [(Γ.2.1 0, .int), (Γ.2.1 1, .boolean), (Γ.2.1 2, .object "SpiralWords$Cloud"), (Γ.2.1 3, .object "SpiralWords$Entry"), (Γ.2.1 4, .long)]
/-- the world: what the heap holds, told over the tables of s -/
def WA (Γ : Ga) (σ : Sto) (s : State) (H : Heap) : Prop :=
  va_P Γ.1 vwCl (wsl Γ σ) H ∧ va_D (gA Γ) (wsl Γ σ) ∧ va_K Γ.1 vwCl (tyl Γ) s ∧ vx_Zq Bundle.tN "UNASSIGNED_STACK" Bundle.steD (gA Γ) s H ∧ vx_Zq Bundle.tN "SUPPRESSED_SENTINEL" Bundle.listD (gA Γ) s H ∧ Γ.2.2.2 ≤ H.size
def exn (n : Nat) : String := match n with
  | 0 => "java/lang/IllegalArgumentException" | 1 => "java/lang/IllegalStateException" | _ => "java/lang/IndexOutOfBoundsException"
def lwF : List Cond := [.castable (exn 0) (exn 0), .castable (exn 1) (exn 1), .castable (exn 2) (exn 2), .declares ⟨"java/lang/RuntimeException", "<init>", "(Ljava/lang/String;)V"⟩, .declares ⟨"java/lang/Exception", "<init>", "(Ljava/lang/String;)V"⟩, .declares ⟨"java/lang/Throwable", "<init>", "(Ljava/lang/String;)V"⟩]
def WS (Γ : Ga) (s : State) : Prop :=
  (∃ a, vk_R RX7 54 "the text is full" a s) ∧ (∃ a, vk_R RX7 213 "there is no saved state" a s) ∧ (∃ a, vk_R RX7 238 "there is no such thing" a s) ∧ (∃ a, vk_R RX7 243 "an argument is out of range" a s) ∧ (∀ q, Γ.2.2.1 21 q = q) ∧ ∀ w ∈ lwF, w.before #[] s = true
theorem mem_dom {c i : Nat} (hc : c < 15) (hi : i < cnt c) : ∃ k : Nat, dom[k]? = some (c, i) := by
  refine List.getElem?_of_mem (List.mem_flatMap.mpr ⟨c, List.mem_range.mpr hc, List.mem_map.mpr ⟨i, List.mem_range.mpr hi, rfl⟩⟩)
theorem wsl_get (Γ : Ga) (σ : Sto) {c i k : Nat} (h : dom[k]? = some (c, i)) : (wsl Γ σ)[k]? = some (Γ.2.2.1 c i, cel Γ σ c i) := by
  unfold wsl; rw [List.getElem?_map, h]; rfl
theorem wsl_set {Γ : Ga} {σ σ' : Sto} {A : Nat → Prop} {c i k : Nat} (hD : va_D A (wsl Γ σ)) (h : dom[k]? = some (c, i)) (ho : ∀ c' i', (c', i') ≠ (c, i) → cel Γ σ' c' i' = cel Γ σ c' i') : (wsl Γ σ).set k (Γ.2.2.1 c i, cel Γ σ' c i) = wsl Γ σ' := by
  have hk := wsl_get Γ σ h
  have hl := (List.getElem?_eq_some_iff.mp hk).1
  apply List.ext_getElem?
  intro j
  by_cases hj : j = k
  · subst hj
    rw [List.getElem?_set_self hl, wsl_get Γ σ' h]
  · rw [List.getElem?_set_ne (Ne.symm hj)]
    unfold wsl
    rw [List.getElem?_map, List.getElem?_map]
    cases hd : dom[j]? with
    | none => rfl
    | some q =>
      obtain ⟨c', i'⟩ := q
      have hne : (c', i') ≠ (c, i) := by
        intro e
        rw [e] at hd
        exact hj (hD.1 j k _ _ (wsl_get Γ σ hd) hk rfl)
      show some (_, cel Γ σ c' i') = some (_, cel Γ σ' c' i')
      rw [ho c' i' hne]
theorem cel_o (Γ : Ga) (σ : Sto) {c : Nat} (i : Nat) (h : c < 9) : cel Γ σ c i = .inr (c, (List.range (nf c)).map fun k => cv Γ (fg σ c i k)) := by
  rcases (show c = 0 ∨ c = 1 ∨ c = 2 ∨ c = 3 ∨ c = 4 ∨ c = 5 ∨ c = 6 ∨ c = 7 ∨ c = 8 by omega) with h | h | h | h | h | h | h | h | h <;> subst h <;> rfl
theorem fg_congr {σ σ' : Sto} {c i k : Nat} (h : σ' c i k = σ c i k) : fg σ' c i k = fg σ c i k := by
  unfold fg
  split <;> first | rw [h] | (split <;> first | rfl | rw [h])
theorem cel_congr {Γ : Ga} {σ σ' : Sto} {c i : Nat} (h : ∀ k, σ' c i k = σ c i k) : cel Γ σ' c i = cel Γ σ c i := by
  unfold cel
  split <;> first | (simp only [h]) | (congr 2; apply List.map_congr_left; intro k _; rw [fg_congr (h k)])
theorem fg_i {σ : Sto} {c i k : Nat} (h : fk c k ≠ 2) : fg σ c i k = vi (σ c i k) := by
  unfold fk at h
  unfold fg
  split at h <;> first | (exact absurd rfl h) | rfl | (split at h <;> first | (exact absurd rfl h) | rfl | (simp; done)) | skip
  all_goals (split <;> simp_all)
theorem wa_moved {Γ : Ga} {σ : Sto} {s t : State} {H : Heap} (h : s.vm.Alike t.vm) (w : WA Γ σ s H) : WA Γ σ t H :=
  ⟨w.1, w.2.1, va_K.moved h w.2.2.1, vx_Zq.moved h w.2.2.2.1, vx_Zq.moved h w.2.2.2.2.1, w.2.2.2.2.2⟩
theorem lwF_g : ∀ w ∈ lwF, (w.onTables && w.faceAtom) = true := by decide
theorem lwF_alike {s t : State} {x y : Array Value} {w : Cond} (h : s.vm.Alike t.vm) (hw : w ∈ lwF) (hb : w.before y s = true) : w.before x t = true := by
  have g := lwF_g w hw
  simp only [Bool.and_eq_true] at g
  have e := Cond.onTables_vm (A := x) (A' := y) (U := t) (U' := s) t.vm w g.1
  have e2 := Cond.faceAtom_setVm h w g.2 hb
  rw [← e] at e2
  exact e2
theorem ws_same {Γ : Ga} {s t : State} (h : t.vm = s.vm) (w : WS Γ s) : WS Γ t :=
  ⟨w.1.imp fun _ q => vk_R.same h q, w.2.1.imp fun _ q => vk_R.same h q, w.2.2.1.imp fun _ q => vk_R.same h q, w.2.2.2.1.imp fun _ q => vk_R.same h q, w.2.2.2.2.1, fun v hv => lwF_alike (by rw [h]; exact Vm.Alike.refl s.vm) hv (w.2.2.2.2.2 v hv)⟩
theorem ws_warm {Γ : Ga} {s t : State} (h : s.WarmedH t.vm) (w : WS Γ s) : WS Γ t :=
  ⟨w.1.imp fun _ q => vk_R.warm h q, w.2.1.imp fun _ q => vk_R.warm h q, w.2.2.1.imp fun _ q => vk_R.warm h q, w.2.2.2.1.imp fun _ q => vk_R.warm h q, w.2.2.2.2.1, fun v hv => lwF_alike h.alike hv (w.2.2.2.2.2 v hv)⟩
