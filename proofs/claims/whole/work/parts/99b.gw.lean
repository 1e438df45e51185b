/-- a function changed at one place -/
def fup {α : Type} (E : Nat → α) (k : Nat) (e : α) : Nat → α := fun j => if j = k then e else E j
theorem fup_e {α : Type} {E : Nat → α} {k : Nat} {e : α} : fup E k e k = e := if_pos rfl
theorem fup_n {α : Type} {E : Nat → α} {k j : Nat} {e : α} (h : j ≠ k) : fup E k e j = E j := if_neg h
/-- the cells made since: the k-th lies at a k -/
def wl (a : Nat → Nat) (E : Nat → va_E) (n : Nat) : va_W := (List.range n).map fun k => (a k, E k)
theorem wl_len {a : Nat → Nat} {n : Nat} {E : Nat → va_E} : (wl a E n).length = n := by unfold wl; rw [List.length_map, List.length_range]
theorem wl_get {a : Nat → Nat} {n k : Nat} {E : Nat → va_E} (h : k < n) : (wl a E n)[k]? = some (a k, E k) := by
  unfold wl
  rw [List.getElem?_map, List.getElem?_range h]; rfl
theorem wl_inv {a : Nat → Nat} {n k : Nat} {E : Nat → va_E} {q : Nat × va_E} (h : (wl a E n)[k]? = some q) : k < n ∧ q = (a k, E k) := by
  have hk : k < n := by
    have := (List.getElem?_eq_some_iff.mp h).1
    rw [wl_len] at this
    exact this
  rw [wl_get hk] at h
  exact ⟨hk, (Option.some.inj h).symm⟩
theorem wl_congr {a a' : Nat → Nat} {n : Nat} {E E' : Nat → va_E} (h : ∀ k, k < n → a' k = a k ∧ E' k = E k) : wl a' E' n = wl a E n := by
  apply List.ext_getElem?
  intro j
  by_cases h1 : j < n
  · rw [wl_get h1, wl_get h1, (h j h1).1, (h j h1).2]
  · rw [List.getElem?_eq_none (by rw [wl_len]; omega), List.getElem?_eq_none (by rw [wl_len]; omega)]
theorem wl_push {a : Nat → Nat} {n q : Nat} {E : Nat → va_E} {e : va_E} : wl a E n ++ [(q, e)] = wl (fup a n q) (fup E n e) (n + 1) := by
  apply List.ext_getElem?
  intro j
  by_cases h : j < n
  · rw [List.getElem?_append_left (by rw [wl_len]; exact h), wl_get h, wl_get (by omega), fup_n (by omega), fup_n (by omega)]
  · by_cases h2 : j = n
    · subst h2
      rw [List.getElem?_append_right (by rw [wl_len]; omega), wl_len, wl_get (by omega), fup_e, fup_e, Nat.sub_self]; rfl
    · rw [List.getElem?_eq_none (by rw [List.length_append, wl_len]; show n + 1 ≤ j; omega), List.getElem?_eq_none (by rw [wl_len]; omega)]
theorem wl_set {a : Nat → Nat} {n k : Nat} {E : Nat → va_E} {e : va_E} (h : k < n) : (wl a E n).set k (a k, e) = wl a (fup E k e) n := by
  apply List.ext_getElem?
  intro j
  by_cases hj : j = k
  · subst hj
    rw [List.getElem?_set_self (by rw [wl_len]; exact h), wl_get h, fup_e]
  · rw [List.getElem?_set_ne (Ne.symm hj)]
    by_cases h2 : j < n
    · rw [wl_get h2, wl_get h2, fup_n hj]
    · rw [List.getElem?_eq_none (by rw [wl_len]; omega), List.getElem?_eq_none (by rw [wl_len]; omega)]
