/-- the first world's numbers -/
def s0 : Sto := fun c i k => match c with
  | 1 => if k = 2 then 60 else if k = 3 then 40 else if k = 5 then 2 else if k = 6 then 5 else 0
  | 9 => 24 * (i : Int) + k
  | 11 => 2 + (k : Int)
  | 12 => if i = 3 then (if k = 0 then 60 else if k = 1 then 40 else if k = 3 then 2 else if k = 4 then 5 else 0) else 0
  | _ => 0
theorem s0_cp : Cp s0 := by
  have z0 : ∀ e k, s0 0 e k = 0 := fun _ _ => rfl
  have z9 : ∀ c k : Nat, s0 9 c k = 24 * (c : Int) + k := fun _ _ => rfl
  have z11 : ∀ k : Nat, s0 11 0 k = 2 + (k : Int) := fun _ => rfl
  refine ⟨⟨⟨fun e _ => ⟨?_, Or.inl (z0 e 0), Or.inl (z0 e 1)⟩, fun c hc j hj => ?_, fun c hc j hj j' hj' h => ?_, fun j hj => ?_, fun j hj j' hj' h => ?_⟩, ?_, ?_, ?_, ?_, ?_, ?_, ?_⟩, ⟨⟨fun k hk => ?_, ?_⟩, ?_⟩, ⟨rfl, ?_⟩, rfl, fun _ _ => rfl⟩
  · unfold bx4 sm; rw [z0, z0, z0, z0]; decide
  · rw [z9]; omega
  · rw [z9, z9] at h; omega
  · rw [z11]; omega
  · rw [z11, z11] at h; omega
  · intro e _ h; rw [z0] at h; omega
  · exact ⟨by decide, fun w hw => absurd hw (Nat.not_lt_zero w)⟩
  · unfold SetOK; decide
  · decide
  · intro j hj
    have : (j : Int) < 0 := hj
    omega
  · refine ⟨by decide, fun k hk => ?_⟩
    have : (k : Int) < 0 := hk
    omega
  · decide
  · rcases (show k = 0 ∨ k = 1 ∨ k = 2 ∨ k = 3 ∨ k = 4 ∨ k = 5 ∨ k = 6 by omega) with rfl | rfl | rfl | rfl | rfl | rfl | rfl <;> rfl
  · intro w hw; exact absurd hw (Nat.not_lt_zero w)
  · intro o o' ho; exact absurd ho (Nat.not_lt_zero o)
  · intro j hj
    have : (j : Int) < 0 := hj
    omega
/-- where a cloud's cells begin -/
def cb (c : Nat) : Nat := if c < 2 then 3 + 74 * c else 5 + 74 * c
/-- an object's place among the cells made -/
def off (c i : Nat) : Nat := match c with
  | 0 => if i = 144 then 452 else cb (i / 24) + 4 + 3 * (i % 24)
  | 1 => cb i
  | 2 => cb (i / 24) + 2 + 3 * (i % 24)
  | 3 => 151 | 4 => 449 | 5 => 453 | 6 => 1 | 7 => 0 | 8 => 455
  | 9 => cb i + 1
  | 10 => cb (i / 24) + 3 + 3 * (i % 24)
  | 11 => 152
  | 12 => (match i with | 0 => 450 | 1 => 451 | 2 => 2 | i => 453 + i)
  | 13 => 454 | _ => 465
theorem off_nd : (dom.map fun q => off q.1 q.2).Nodup := by decide +kernel
theorem off_lt : ∀ q ∈ dom, off q.1 q.2 < 466 := by decide +kernel
theorem dom_in : ∀ q ∈ dom, q.1 < 15 ∧ q.2 < cnt q.1 := by decide +kernel
def gam (Γ : Ga) (b : Nat) (a : Nat → Nat) : Ga := (Γ.1, Γ.2.1, (fun c i => match c with | 20 => b | 21 => i | c => a (off c i)), Γ.2.2.2)
def SHP (Γ : Ga) (a : Nat → Nat) (E : Nat → va_E) : Prop := sh_7 Γ a E 0 1 ∧ sh_8 Γ a E 455 456 ∧ E 465 = .inl (Γ.2.1 4, 1, .inr (.inl fun _ => 0))
theorem arrV_cg {cA : ClassId} {n : Nat} {f g : Nat → Value} (h : ∀ j, j < n → f j = g j) : arrV cA n f = arrV cA n g := by
  have e : (fun j : Fin n => f j) = fun j : Fin n => g j := funext fun j => h j.1 j.2
  show ({ cls := cA, slots := Array.ofFn fun j : Fin n => f j } : Cell) = { cls := cA, slots := Array.ofFn fun j : Fin n => g j }
  rw [e]
theorem at_q {D : va_G} {cl : List vw_C} {q n : Nat} {cA : ClassId} {f g : Nat → Option Nat} {H : Heap} (h : ∀ j, j < n → f j = g j) (w : va_at D cl (q, .inl (cA, n, .inr (.inr (.inr (.inr f))))) H) : va_at D cl (q, .inl (cA, n, .inr (.inr (.inr (.inr g))))) H := by
  have w : H[q]? = some (vp_cell cA (n, .inr (.inr (.inr (.inr f))))) := w
  show H[q]? = some (vp_cell cA (n, .inr (.inr (.inr (.inr g)))))
  rw [w, vp_cell_q, vp_cell_q, arrV_cg (fun j hj => by rw [h j hj])]
theorem at_i {D : va_G} {cl : List vw_C} {q n : Nat} {cA : ClassId} {f g : Nat → Int32} {H : Heap} (h : ∀ j, j < n → f j = g j) (w : va_at D cl (q, .inl (cA, n, .inl f)) H) : va_at D cl (q, .inl (cA, n, .inl g)) H := by
  have w : H[q]? = some (vp_cell cA (n, .inl f)) := w
  show H[q]? = some (vp_cell cA (n, .inl g))
  rw [w, vp_cell_i, vp_cell_i, arrV_cg (fun j hj => by rw [h j hj])]
theorem shp_c {Γ : Ga} {a : Nat → Nat} {E : Nat → va_E} (h : SHP Γ a E) {c : Nat} (hc : c < 6) : sh_1 Γ a E (cb c) (cb c + 1) := by
  obtain ⟨⟨-, -, h0, h1, ⟨-, -, h2⟩, -⟩, -⟩ := h
  rcases (show c = 0 ∨ c = 1 ∨ c = 2 ∨ c = 3 ∨ c = 4 ∨ c = 5 by omega) with rfl | rfl | rfl | rfl | rfl | rfl
  · exact h0
  · exact h1
  · exact h2 0 (by decide)
  · exact h2 1 (by decide)
  · exact h2 2 (by decide)
  · exact h2 3 (by decide)
theorem shp_e {Γ : Ga} {a : Nat → Nat} {E : Nat → va_E} (h : SHP Γ a E) {i : Nat} (hi : i < 144) : sh_2 Γ a E (off 2 i) (off 10 i) := by
  have hh := (shp_c h (c := i / 24) (by omega)).2.2 (i % 24) (Nat.mod_lt _ (by omega))
  have e1 : off 2 i = cb (i / 24) + 1 + 1 + 3 * (i % 24) := rfl
  have e2 : off 10 i = cb (i / 24) + 1 + 2 + 3 * (i % 24) := rfl
  rw [e1, e2]; exact hh
