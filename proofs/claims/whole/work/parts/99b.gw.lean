/-- a function changed at one place -/
def fup {α : Type} (E : Nat → α) (k : Nat) (e : α) : Nat → α := fun j => if j = k then e else E j
theorem fup_e {α : Type} {E : Nat → α} {k : Nat} {e : α} : fup E k e k = e := if_pos rfl
theorem fup_n {α : Type} {E : Nat → α} {k j : Nat} {e : α} (h : j ≠ k) : fup E k e j = E j := if_neg h
/-- the cells made since: the k-th lies at b + k -/
def wl (b : Nat) (E : Nat → va_E) (n : Nat) : va_W := (List.range n).map fun k => (b + k, E k)
theorem wl_get {b n k : Nat} {E : Nat → va_E} (h : k < n) : (wl b E n)[k]? = some (b + k, E k) := by
  unfold wl
  rw [List.getElem?_map, List.getElem?_range h]; rfl
theorem wl_inv {b n k : Nat} {E : Nat → va_E} {q : Nat × va_E} (h : (wl b E n)[k]? = some q) : k < n ∧ q = (b + k, E k) := by
  have hk : k < n := by
    have := (List.getElem?_eq_some_iff.mp h).1
    unfold wl at this
    rw [List.length_map, List.length_range] at this
    exact this
  rw [wl_get hk] at h
  exact ⟨hk, (Option.some.inj h).symm⟩
theorem wl_d {b n : Nat} {E : Nat → va_E} : va_D (fun q => b ≤ q) (wl b E n) := by
  refine ⟨fun i j p q hp hq e => ?_, fun k q hq => ?_⟩
  · obtain ⟨-, rfl⟩ := wl_inv hp
    obtain ⟨-, rfl⟩ := wl_inv hq
    have e : b + i = b + j := e
    omega
  · obtain ⟨-, rfl⟩ := wl_inv hq
    exact Nat.le_add_right b k
theorem wl_push {b n : Nat} {E : Nat → va_E} {e : va_E} : wl b E n ++ [(b + n, e)] = wl b (fup E n e) (n + 1) := by
  apply List.ext_getElem?
  intro j
  have hl : (wl b E n).length = n := by unfold wl; rw [List.length_map, List.length_range]
  by_cases h : j < n
  · rw [List.getElem?_append_left (by rw [hl]; exact h), wl_get h, wl_get (by omega), fup_n (by omega)]
  · by_cases h2 : j = n
    · subst h2
      rw [List.getElem?_append_right (by omega), hl, wl_get (by omega), fup_e, Nat.sub_self]; rfl
    · rw [List.getElem?_eq_none (by rw [List.length_append, hl]; show n + 1 ≤ j; omega), List.getElem?_eq_none (by unfold wl; rw [List.length_map, List.length_range]; omega)]
theorem wl_set {b n k : Nat} {E : Nat → va_E} {e : va_E} (h : k < n) : (wl b E n).set k (b + k, e) = wl b (fup E k e) n := by
  apply List.ext_getElem?
  intro j
  have hl : (wl b E n).length = n := by unfold wl; rw [List.length_map, List.length_range]
  by_cases hj : j = k
  · subst hj
    rw [List.getElem?_set_self (by rw [hl]; exact h), wl_get h, fup_e]
  · rw [List.getElem?_set_ne (Ne.symm hj)]
    by_cases h2 : j < n
    · rw [wl_get h2, wl_get h2, fup_n hj]
    · rw [List.getElem?_eq_none (by omega), List.getElem?_eq_none (by unfold wl; rw [List.length_map, List.length_range]; omega)]
