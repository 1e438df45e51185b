set_option maxRecDepth 100000 in
set_option maxHeartbeats 4000000 in
/-- from the entry, for every script of at most 2048 ints, the law comes to its end with true -/
theorem whole_start {p : Program} {e : Env} {s : State} {m : MethodId} {below : List Frame} {meth : Method} {c : Code} (l : Launch) (hflags : l.flags = flags0) {b L : Nat} {xs : Nat → Int32} (hL : L ≤ 2048) (C0 : lw_At p s m meth c b L xs) : W p l e room_1 s m #[Value.ref b] below meth c s.heap [] 0 0 (lw_Z below #[Value.ref b] s) (entryFrame m ([Value.ref b] : List Value).toArray 9) := by
  obtain ⟨hx, hb, hr, hml, hown, hts0, hX, hbl, hlocks, hgv⟩ := id C0
  have hts : ∀ w ∈ lwA, w.before #[Value.ref b] s = true := fun w h => hts0 w (lwA_tbl h)
  have hfl := st_fl hflags
  have hgn := st_gn hts0
  have hNC := st_nc hgv
  have hnr := flat_of_before _ hgv
  obtain ⟨Γ, hΓ, hK⟩ := st_ga hts hgn s.heap.size
  have hbase : Γ.2.2.2 ≤ s.heap.size := Nat.le_of_eq hΓ
  have hown : s.vm.findClass RL = some m.cls := hown
  have hS : va_S (gA Γ) s.heap s.heap [] := va_S.rf
  have hG : GW Γ (fun _ => 0) (fun _ => .inr (0, [])) 0 s s.heap := ⟨fun k q h => absurd (wl_inv h).1 (Nat.not_lt_zero k), ⟨fun i j p q h => absurd (wl_inv h).1 (Nat.not_lt_zero i), fun k q h => absurd (wl_inv h).1 (Nat.not_lt_zero k)⟩, hK⟩
  have hl := lv_entry ([.ref b]) (n := 9) (Nat.le_of_ble_eq_true rfl)
  rw [lg_entry_eq]
  generalize (lg_sl ([.ref b]) ++ List.replicate (9 - (lg_sl ([.ref b])).length) Slot.unset).toArray = ls at hl ⊢
  have hl : lv_has ls 9 [(0, .ref b)] := hl
  refine t_new hx hb hts hown hG hS hbase (ci := 7) (by decide) wq_L_8 df_7 (n1 := 1) rfl (c1 := 1) (s1 := 6) rfl rfl (Nat.le_of_ble_eq_true rfl) (Nat.le_of_ble_eq_true rfl) dL_law_0 (fun q1 a1 E1 H1 hag1 ga1 gE1 hG hS => ?_)
  refine lv_dup hx hb dL_law_3 rfl ?_
  refine t_call (cX7 l) hx hb hml hl.1 hts hown hG hS hbase hgn rfl rfl rfl wl_L_68_i wm_7 wi_7 wk_7 (by decide +kernel) ⟨Nat.le_of_ble_eq_true rfl, Nat.le_of_ble_eq_true rfl⟩ (k := 0) (by omega) ga1 gE1 (Nat.le_of_ble_eq_true rfl) dL_law_4 (n1 := 455) rfl (c1 := 455) (s1 := 3723) rfl rfl (Nat.le_of_ble_eq_true rfl) (Nat.le_of_ble_eq_true rfl) (fun a2 E2 H2 locs2 hA2 hE2 hsh7 hG hS => ?_)
  have ga1_2 : a2 0 = q1 := (hA2 0 (by omega)).trans ga1
  refine lv_astore_n hx hb dL_law_7 rfl hl (by decide) rfl (fun ls2 hl => ?_)
  refine t_new hx hb hts hown hG hS hbase (ci := 8) (by decide) wq_L_69 df_8 (n1 := 456) rfl (c1 := 456) (s1 := 3737) rfl rfl (Nat.le_of_ble_eq_true rfl) (Nat.le_of_ble_eq_true rfl) dL_law_8 (fun q3 a3 E3 H3 hag3 ga3 gE3 hG hS => ?_)
  refine lv_dup hx hb dL_law_11 rfl ?_
  refine t_call (cX8 l) hx hb hml hl.1 hts hown hG hS hbase hgn rfl rfl rfl wl_L_71_i wm_8 wi_8 wk_8 (by decide +kernel) ⟨Nat.le_of_ble_eq_true rfl, Nat.le_of_ble_eq_true rfl⟩ (k := 455) (by omega) ga3 gE3 (Nat.le_of_ble_eq_true rfl) dL_law_12 (n1 := 465) rfl (c1 := 465) (s1 := 6835) rfl rfl (Nat.le_of_ble_eq_true rfl) (Nat.le_of_ble_eq_true rfl) (fun a4 E4 H4 locs4 hA4 hE4 hsh8 hG hS => ?_)
  refine lv_astore_n hx hb dL_law_15 rfl hl (by decide) rfl (fun ls3 hl => ?_)
  refine lv_iconst hx hb dL_law_16 (v := 1) (by decide +kernel) ?_
  refine t_newa hx hb hts hG hS hbase .long .long 4 rfl rfl wa_long (N' := 1) (a0 := (1, .inr (.inl fun _ => 0))) (fun _ => rfl) (by decide) (by decide +kernel) (Nat.le_of_ble_eq_true rfl) (n1 := 466) rfl (c1 := 466) (s1 := 6836) rfl rfl (Nat.le_of_ble_eq_true rfl) (Nat.le_of_ble_eq_true rfl) dL_law_17 (fun q5 a5 E5 H5 hag5 ga5 gE5 hG hS => ?_)
  refine lv_astore_n hx hb dL_law_19 rfl hl (by decide) rfl (fun ls4 hl => ?_)
  refine lv_iconst hx hb dL_law_20 (v := Int32.ofInt 0) (by decide +kernel) ?_
  refine lv_istore hx hb dL_law_21 hl (by decide) rfl (fun ls5 hl => ?_)
  have hm : ∀ j, j < 455 → a5 j = a2 j ∧ E5 j = E2 j := fun j hj => ⟨(hag5 j (by omega)).1.trans ((hA4 j (by omega)).trans (hag3 j (by omega)).1), (hag5 j (by omega)).2.trans ((hE4 j (by omega) (by omega)).trans (hag3 j (by omega)).2)⟩
  have k7 : sh_7 Γ a5 E5 0 1 := sk_7 (hm 0 (by omega)) (fun j h1 h2 => hm j (by omega)) hsh7
  have k8 : sh_8 Γ a5 E5 455 456 := sk_8 (hag5 455 (by omega)) (fun j h1 h2 => hag5 j (by omega)) hsh8
  have hshp : SHP Γ a5 E5 := ⟨k7, k8, gE5⟩
  have e1 : a5 0 = q1 := (hm 0 (by omega)).1.trans ga1_2
  have e3 : a5 455 = q3 := (hag5 455 (by omega)).1.trans ((hA4 455 (by omega)).trans ga3)
  have hnA : ∀ a : Nat, a < s.heap.size → ¬ gA Γ a := fun a h h2 => by
    have h2 : Γ.2.2.2 ≤ a := h2
    rw [hΓ] at h2
    omega
  have hz1 : vx_Zq Bundle.tN "UNASSIGNED_STACK" Bundle.steD (gA Γ) s H5 := (vx_Zqof (hts0 _ (tt3 (i := 55) rfl)) (hts0 _ (tt1 (i := 10) rfl)) (hnr _ nm_u) hnA).kept hS.2.1
  have hz2 : vx_Zq Bundle.tN "SUPPRESSED_SENTINEL" Bundle.listD (gA Γ) s H5 := (vx_Zqof (hts0 _ (tt3 (i := 57) rfl)) (hts0 _ (tt1 (i := 10) rfl)) (hnr _ nm_l) hnA).kept hS.2.1
  have hWA : WA (gam Γ b a5) s0 s H5 := wa_first hG hshp hz1 hz2 (Nat.le_trans hbase hS.1)
  have hWS : WS (gam Γ b a5) s := st_ws hts0 hgv (fun _ => rfl)
  have hl : lv_has ls5 9 (asL (gam Γ b a5) 0 [vr 20 0, vr 7 0, vr 8 0, vr 14 0, vi 0, vj, vj, vj, vj]) := by
    rw [← e1, ← e3, ← ga5] at hl
    exact lv_sub hl [4, 3, 2, 1, 0] rfl
  have hCl := sound2 (Γ := gam Γ b a5) (P := pr_L_law L (fun j => (xs j).toInt)) (K := fun r _ => r = some (vi 1)) (X := fun _ _ _ _ _ => False) (b0 := 466) (b1 := 6836) (R := room_1) (Q := lw_Z below #[Value.ref b] s) (own := RL) (nL := 9) (l := l) (e := e) (below := below) (meth := meth) hx hb hml hown hts hWS hbase ftL9_ok (law_calls l hfl _ hNC _ _) (fun q hq => absurd hq List.not_mem_nil) (fun q hq => absurd hq List.not_mem_nil) ⟨Nat.le_of_ble_eq_true rfl, Nat.le_of_ble_eq_true rfl⟩ (fun _ _ _ _ _ _ _ _ _ _ _ h => h.elim)
    (fun x σ k H locs la pc hd hk hrk hK9 hS1 hA1 => by
      obtain rfl : x = 1 := Sum.inl.inj (Option.some.inj hK9)
      refine va_forget (fun q hq => ?_) ?_
      · have h9 : Γ.2.2.2 ≤ q.base := hS1.2.2 q hq
        rw [hΓ] at h9
        exact h9
      · have hk : k ≤ 2048 := hk
        refine W.widen (k := 601024) (n := 7293034) (by omega) (by omega) ?_
        exact lw_ret (Drawn.sameBut.refl s.drawn lw_cs) hx hb hr hlocks hd)
    (fun _ _ _ _ _ _ _ _ _ h => absurd h (show ¬ (2 : Nat) = 3 by decide)) (fun _ _ _ _ _ _ _ _ _ h => absurd h (show ¬ (2 : Nat) = 4 by decide)) (fun _ _ _ _ _ _ _ _ h => absurd h (show ¬ (2 : Nat) = 0 by decide))
    (fun q hq => by
      obtain rfl := Option.some.inj hq
      exact ⟨Nat.le_trans hL (by decide), xs, fun _ => rfl, hX, hbl, hnA b hbl, fun _ => rfl⟩)
  exact ll_loop hCl hL (fun j => ⟨Int32.le_toInt (xs j), Int32.toInt_lt (xs j)⟩) (fun _ => rfl) 512 0 s0 0 vj vj vj vj (by omega) (by omega) (by omega) (by omega) s0_cp H5 locs4 ls5 hS hWA hl rfl
