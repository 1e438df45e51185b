theorem off_0e {i : Nat} (h : i < 144) : off 0 i = off 10 i + 1 := by
  show (if i = 144 then 452 else cb (i / 24) + 4 + 3 * (i % 24)) = cb (i / 24) + 3 + 3 * (i % 24) + 1
  rw [if_neg (by omega)]; omega
theorem off_2e {i j : Nat} (h : j < 24) : off 2 (24 * i + j) = cb i + 2 + 3 * j := by
  show cb ((24 * i + j) / 24) + 2 + 3 * ((24 * i + j) % 24) = _
  rw [show (24 * i + j) / 24 = i by omega, show (24 * i + j) % 24 = j by omega]
theorem s0_12 (j : Nat) : upd (upd (upd (upd (fun _ => (0 : Int32)) 0 60) 1 40) 3 2) 4 5 j = Int32.ofInt (s0 12 3 j) := by
  show _ = Int32.ofInt (if (3 : Nat) = 3 then (if j = 0 then 60 else if j = 1 then 40 else if j = 3 then 2 else if j = 4 then 5 else 0) else 0)
  rw [if_pos rfl]
  unfold upd
  by_cases h4 : j = 4
  · subst h4; rfl
  · by_cases h3 : j = 3
    · subst h3; rfl
    · by_cases h1 : j = 1
      · subst h1; rfl
      · by_cases h0 : j = 0
        · subst h0; rfl
        · simp only [h0, h1, h3, h4, if_false]; rfl
theorem cel_ok {Γ : Ga} {a : Nat → Nat} {E : Nat → va_E} {b : Nat} (h : SHP Γ a E) {D : va_G} {cl : List vw_C} {H : Heap} {c i : Nat} (hc : c < 15) (hi : i < cnt c) (w : va_at D cl (a (off c i), E (off c i)) H) : va_at D cl (a (off c i), cel (gam Γ b a) s0 c i) H := by
  have ob : ∀ {x : va_E}, E (off c i) = x → x = cel (gam Γ b a) s0 c i → va_at D cl (a (off c i), cel (gam Γ b a) s0 c i) H := fun {x} e1 e2 => by rw [← e2, ← e1]; exact w
  obtain ⟨⟨h7, h6, -, -, ⟨h3, ⟨f11, g11, k11⟩, -⟩, ⟨h4, g450, g451, g452, g453⟩, g454⟩, h8, g465⟩ := id h
  rcases (show c = 0 ∨ c = 1 ∨ c = 2 ∨ c = 3 ∨ c = 4 ∨ c = 5 ∨ c = 6 ∨ c = 7 ∨ c = 8 ∨ c = 9 ∨ c = 10 ∨ c = 11 ∨ c = 12 ∨ c = 13 ∨ c = 14 by omega) with rfl | rfl | rfl | rfl | rfl | rfl | rfl | rfl | rfl | rfl | rfl | rfl | rfl | rfl | rfl
  · have hi : i < 145 := hi
    by_cases h144 : i = 144
    · subst h144
      exact ob g452 rfl
    · have hh := (shp_e h (i := i) (by omega)).2.2
      refine ob (x := .inr (0, [.int 0, .int 0, .int 0, .int 0, .int 0, .int 0])) ?_ rfl
      rw [off_0e (by omega)]; exact hh
  · exact ob (shp_c h hi).1 rfl
  · have hi : i < 144 := hi
    have hh := (shp_e h hi).1
    rw [← off_0e hi] at hh
    exact ob hh rfl
  · obtain rfl : i = 0 := by have : i < 1 := hi; omega
    exact ob h3 rfl
  · obtain rfl : i = 0 := by have : i < 1 := hi; omega
    exact ob h4 rfl
  · obtain rfl : i = 0 := by have : i < 1 := hi; omega
    exact ob g453 rfl
  · obtain rfl : i = 0 := by have : i < 1 := hi; omega
    exact ob h6.1 rfl
  · obtain rfl : i = 0 := by have : i < 1 := hi; omega
    exact ob h7 rfl
  · obtain rfl : i = 0 := by have : i < 1 := hi; omega
    exact ob h8.1 rfl
  · have hi : i < 6 := hi
    obtain ⟨f, g, k⟩ := (shp_c h hi).2.1
    have w : va_at D cl (a (off 9 i), E (cb i + 1)) H := w
    rw [g] at w
    refine at_q (fun j hj => ?_) w
    rw [k j hj]
    show some (a (cb i + 1 + 1 + 3 * j)) = some (a (off 2 (24 * (i : Int) + (j : Int)).toNat))
    rw [show (24 * (i : Int) + (j : Int)).toNat = 24 * i + j by omega, off_2e hj, show cb i + 1 + 1 + 3 * j = cb i + 2 + 3 * j by omega]
  · exact ob (shp_e h hi).2.1 rfl
  · obtain rfl : i = 0 := by have : i < 1 := hi; omega
    have w : va_at D cl (a (off 11 0), E (1 + 151)) H := w
    rw [g11] at w
    refine at_q (fun j hj => ?_) w
    rw [k11 j hj]
    show some (a (1 + 151 + 1 + 74 * j)) = some (a (cb (2 + (j : Int)).toNat))
    rw [show (2 + (j : Int)).toNat = 2 + j by omega]
    unfold cb
    rw [if_neg (by omega), show 1 + 151 + 1 + 74 * j = 5 + 74 * (2 + j) by omega]
  · have hi : i < 12 := hi
    obtain ⟨-, g3, g4, g5, g6, g7, g8, g9, g10, g11⟩ := h8
    rcases (show i = 0 ∨ i = 1 ∨ i = 2 ∨ i = 3 ∨ i = 4 ∨ i = 5 ∨ i = 6 ∨ i = 7 ∨ i = 8 ∨ i = 9 ∨ i = 10 ∨ i = 11 by omega) with rfl | rfl | rfl | rfl | rfl | rfl | rfl | rfl | rfl | rfl | rfl | rfl
    · exact ob g450 rfl
    · exact ob g451 rfl
    · exact ob h6.2 rfl
    · have w : va_at D cl (a (off 12 3), E 456) H := w
      rw [g3] at w
      exact at_i (fun j _ => s0_12 j) w
    · exact ob g4 rfl
    · exact ob g5 rfl
    · exact ob g6 rfl
    · exact ob g7 rfl
    · exact ob g8 rfl
    · exact ob g9 rfl
    · exact ob g10 rfl
    · exact ob g11 rfl
  · obtain rfl : i = 0 := by have : i < 1 := hi; omega
    exact ob g454 rfl
  · obtain rfl : i = 0 := by have : i < 1 := hi; omega
    exact ob g465 rfl
theorem wsl_inv {Γ : Ga} {σ : Sto} {k : Nat} {q : Nat × va_E} (h : (wsl Γ σ)[k]? = some q) : ∃ c i, dom[k]? = some (c, i) ∧ q = (Γ.2.2.1 c i, cel Γ σ c i) := by
  unfold wsl at h
  rw [List.getElem?_map] at h
  cases hd : dom[k]? with
  | none => rw [hd] at h; cases h
  | some x => rw [hd] at h; exact ⟨x.1, x.2, rfl, (Option.some.inj h).symm⟩
theorem gam_pl {Γ : Ga} {b : Nat} {a : Nat → Nat} {c i : Nat} (h : c < 15) : (gam Γ b a).2.2.1 c i = a (off c i) := by
  rcases (show c = 0 ∨ c = 1 ∨ c = 2 ∨ c = 3 ∨ c = 4 ∨ c = 5 ∨ c = 6 ∨ c = 7 ∨ c = 8 ∨ c = 9 ∨ c = 10 ∨ c = 11 ∨ c = 12 ∨ c = 13 ∨ c = 14 by omega) with rfl | rfl | rfl | rfl | rfl | rfl | rfl | rfl | rfl | rfl | rfl | rfl | rfl | rfl | rfl <;> rfl
theorem wa_first {Γ : Ga} {a : Nat → Nat} {E : Nat → va_E} {s : State} {H : Heap} {b : Nat} (hG : GW Γ a E 466 s H) (hS : SHP Γ a E) (hz1 : vx_Zq Bundle.tN "UNASSIGNED_STACK" Bundle.steD (gA Γ) s H) (hz2 : vx_Zq Bundle.tN "SUPPRESSED_SENTINEL" Bundle.listD (gA Γ) s H) (hb : Γ.2.2.2 ≤ H.size) : WA (gam Γ b a) s0 s H := by
  refine ⟨fun k q hk => ?_, ⟨fun i j p q hi hj e => ?_, fun k q hk => ?_⟩, hG.2.2, hz1, hz2, hb⟩
  · obtain ⟨c, i, hd, rfl⟩ := wsl_inv hk
    obtain ⟨hc, hi⟩ := dom_in _ (List.mem_of_getElem? hd)
    have hl := off_lt _ (List.mem_of_getElem? hd)
    rw [gam_pl hc]
    exact cel_ok hS hc hi (hG.1 (off c i) _ (wl_get hl))
  · obtain ⟨c, x, hd, rfl⟩ := wsl_inv hi
    obtain ⟨c', x', hd', rfl⟩ := wsl_inv hj
    have hl := off_lt _ (List.mem_of_getElem? hd)
    have hl' := off_lt _ (List.mem_of_getElem? hd')
    dsimp only at e
    rw [gam_pl (dom_in _ (List.mem_of_getElem? hd)).1, gam_pl (dom_in _ (List.mem_of_getElem? hd')).1] at e
    have e2 : off c x = off c' x' := hG.2.1.1 (off c x) (off c' x') _ _ (wl_get hl) (wl_get hl') e
    have hlen : i < (dom.map fun q => off q.1 q.2).length := by
      rw [List.length_map]; exact (List.getElem?_eq_some_iff.mp hd).1
    refine (List.getElem?_inj hlen off_nd).mp ?_
    rw [List.getElem?_map, List.getElem?_map, hd, hd']
    show some (off c x) = some (off c' x')
    rw [e2]
  · obtain ⟨c, i, hd, rfl⟩ := wsl_inv hk
    have hl := off_lt _ (List.mem_of_getElem? hd)
    rw [gam_pl (dom_in _ (List.mem_of_getElem? hd)).1]
    exact hG.2.1.2 (off c i) (a (off c i), E (off c i)) (wl_get hl)
