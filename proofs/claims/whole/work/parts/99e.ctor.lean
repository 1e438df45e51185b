theorem wo_c : Cond.code objectInit object_method_1_code 1 none ∈ lwA := tm1 (i := 24) rfl rfl
theorem wo_i : Cond.instanceMethod objectInit ∈ lwA := tm1 (i := 23) rfl rfl
theorem wa_int : Cond.arrayClass .int ∈ lwA := tm1 (i := 45) rfl rfl
theorem wa_boolean : Cond.arrayClass .boolean ∈ lwA := tm2 (i := 28) rfl rfl
theorem wa_long : Cond.arrayClass .long ∈ lwA := tm5 (i := 154) rfl rfl
theorem wo_0 : Cond.methodLink RX0 1 objectInit ∈ lwA := (tm1 (i := 64) rfl rfl)
theorem wk_0 : Cond.code yX0_init cX0_init 1 none ∈ lwA := (tm1 (i := 63) rfl rfl)
theorem wm_0 : Cond.instanceMethod yX0_init ∈ lwA := (tm1 (i := 62) rfl rfl)
theorem wi_0 : Cond.initialized yX0_init.cls ∈ lwA := (tm1 (i := 5) rfl rfl)
def fs0_0 : List Value := [.int 0, .int 0, .int 0, .int 0, .int 0, .int 0]
theorem df_0 : ∀ j, j < nf 0 → defaultValue (fty 0 j) = vp_V fs0_0 j := by
  intro j hj
  have hj : j < 6 := hj
  rcases (show j = 0 ∨ j = 1 ∨ j = 2 ∨ j = 3 ∨ j = 4 ∨ j = 5 by omega) with rfl | rfl | rfl | rfl | rfl | rfl <;> rfl
def rm_0 : Room := { frames := 1, cells := 0, slots := 0, locals := 12 }
theorem wo_1 : Cond.methodLink RX1 3 objectInit ∈ lwA := (tm1 (i := 51) rfl rfl)
theorem wk_1 : Cond.code yX1_init cX1_init 2 none ∈ lwA := (tm1 (i := 50) rfl rfl)
theorem wm_1 : Cond.instanceMethod yX1_init ∈ lwA := (tm1 (i := 49) rfl rfl)
theorem wi_1 : Cond.initialized yX1_init.cls ∈ lwA := (tm1 (i := 3) rfl rfl)
def fs0_1 : List Value := [.null, .int 0, .int 0, .int 0, .int 0, .int 0, .int 0, .int 0]
theorem df_1 : ∀ j, j < nf 1 → defaultValue (fty 1 j) = vp_V fs0_1 j := by
  intro j hj
  have hj : j < 8 := hj
  rcases (show j = 0 ∨ j = 1 ∨ j = 2 ∨ j = 3 ∨ j = 4 ∨ j = 5 ∨ j = 6 ∨ j = 7 by omega) with rfl | rfl | rfl | rfl | rfl | rfl | rfl | rfl <;> rfl
def rm_1 : Room := { frames := 3, cells := 73, slots := 552, locals := 52 }
theorem wo_2 : Cond.methodLink RX2 3 objectInit ∈ lwA := (tm1 (i := 58) rfl rfl)
theorem wk_2 : Cond.code yX2_init cX2_init 1 none ∈ lwA := (tm1 (i := 57) rfl rfl)
theorem wm_2 : Cond.instanceMethod yX2_init ∈ lwA := (tm1 (i := 56) rfl rfl)
theorem wi_2 : Cond.initialized yX2_init.cls ∈ lwA := (tm1 (i := 4) rfl rfl)
def fs0_2 : List Value := [.null, .null, .int 0, .int 0, .int 0, .int 0]
theorem df_2 : ∀ j, j < nf 2 → defaultValue (fty 2 j) = vp_V fs0_2 j := by
  intro j hj
  have hj : j < 6 := hj
  rcases (show j = 0 ∨ j = 1 ∨ j = 2 ∨ j = 3 ∨ j = 4 ∨ j = 5 by omega) with rfl | rfl | rfl | rfl | rfl | rfl <;> rfl
def rm_2 : Room := { frames := 2, cells := 2, slots := 16, locals := 32 }
theorem wo_3 : Cond.methodLink RX3 3 objectInit ∈ lwA := (tm1 (i := 180) rfl rfl)
theorem wk_3 : Cond.code yX3_init cX3_init 2 none ∈ lwA := (tm1 (i := 179) rfl rfl)
theorem wm_3 : Cond.instanceMethod yX3_init ∈ lwA := (tm1 (i := 178) rfl rfl)
theorem wi_3 : Cond.initialized yX3_init.cls ∈ lwA := (tm1 (i := 6) rfl rfl)
def fs0_3 : List Value := [.null, .int 0]
theorem df_3 : ∀ j, j < nf 3 → defaultValue (fty 3 j) = vp_V fs0_3 j := by
  intro j hj
  have hj : j < 2 := hj
  rcases (show j = 0 ∨ j = 1 by omega) with rfl | rfl <;> rfl
def rm_3 : Room := { frames := 4, cells := 297, slots := 2244, locals := 73 }
theorem wo_4 : Cond.methodLink RX4 3 objectInit ∈ lwA := (tm1 (i := 197) rfl rfl)
theorem wk_4 : Cond.code yX4_init cX4_init 1 none ∈ lwA := (tm1 (i := 196) rfl rfl)
theorem wm_4 : Cond.instanceMethod yX4_init ∈ lwA := (tm1 (i := 195) rfl rfl)
theorem wi_4 : Cond.initialized yX4_init.cls ∈ lwA := (tm1 (i := 7) rfl rfl)
def fs0_4 : List Value := [.null, .null, .null, .null, .int 0, .int 0]
theorem df_4 : ∀ j, j < nf 4 → defaultValue (fty 4 j) = vp_V fs0_4 j := by
  intro j hj
  have hj : j < 6 := hj
  rcases (show j = 0 ∨ j = 1 ∨ j = 2 ∨ j = 3 ∨ j = 4 ∨ j = 5 by omega) with rfl | rfl | rfl | rfl | rfl | rfl <;> rfl
def rm_4 : Room := { frames := 2, cells := 4, slots := 61, locals := 32 }
theorem wo_5 : Cond.methodLink RX5 1 objectInit ∈ lwA := (tm1 (i := 205) rfl rfl)
theorem wk_5 : Cond.code yX5_init cX5_init 1 none ∈ lwA := (tm1 (i := 204) rfl rfl)
theorem wm_5 : Cond.instanceMethod yX5_init ∈ lwA := (tm1 (i := 203) rfl rfl)
theorem wi_5 : Cond.initialized yX5_init.cls ∈ lwA := (tm1 (i := 8) rfl rfl)
def fs0_5 : List Value := [.int 0, .int 0, .int 0, .int 0, .int 0, .int 0, .int 0]
theorem df_5 : ∀ j, j < nf 5 → defaultValue (fty 5 j) = vp_V fs0_5 j := by
  intro j hj
  have hj : j < 7 := hj
  rcases (show j = 0 ∨ j = 1 ∨ j = 2 ∨ j = 3 ∨ j = 4 ∨ j = 5 ∨ j = 6 by omega) with rfl | rfl | rfl | rfl | rfl | rfl | rfl <;> rfl
def rm_5 : Room := { frames := 1, cells := 0, slots := 0, locals := 12 }
theorem wo_6 : Cond.methodLink RX6 3 objectInit ∈ lwA := (tm1 (i := 30) rfl rfl)
theorem wk_6 : Cond.code yX6_init cX6_init 1 none ∈ lwA := (tm1 (i := 29) rfl rfl)
theorem wm_6 : Cond.instanceMethod yX6_init ∈ lwA := (tm1 (i := 28) rfl rfl)
theorem wi_6 : Cond.initialized yX6_init.cls ∈ lwA := (tm1 (i := 2) rfl rfl)
def fs0_6 : List Value := [.null, .int 0, .int 0, .int 0]
theorem df_6 : ∀ j, j < nf 6 → defaultValue (fty 6 j) = vp_V fs0_6 j := by
  intro j hj
  have hj : j < 4 := hj
  rcases (show j = 0 ∨ j = 1 ∨ j = 2 ∨ j = 3 by omega) with rfl | rfl | rfl | rfl <;> rfl
def rm_6 : Room := { frames := 1, cells := 1, slots := 200, locals := 12 }
theorem wo_7 : Cond.methodLink RX7 1 objectInit ∈ lwA := (tm1 (i := 22) rfl rfl)
theorem wk_7 : Cond.code yX7_init cX7_init 1 none ∈ lwA := (tm1 (i := 21) rfl rfl)
theorem wm_7 : Cond.instanceMethod yX7_init ∈ lwA := (tm1 (i := 20) rfl rfl)
theorem wi_7 : Cond.initialized yX7_init.cls ∈ lwA := (tm1 (i := 1) rfl rfl)
def fs0_7 : List Value := [.null, .null, .null, .null, .null, .null]
theorem df_7 : ∀ j, j < nf 7 → defaultValue (fty 7 j) = vp_V fs0_7 j := by
  intro j hj
  have hj : j < 6 := hj
  rcases (show j = 0 ∨ j = 1 ∨ j = 2 ∨ j = 3 ∨ j = 4 ∨ j = 5 by omega) with rfl | rfl | rfl | rfl | rfl | rfl <;> rfl
def rm_7 : Room := { frames := 5, cells := 454, slots := 3717, locals := 94 }
theorem wo_8 : Cond.methodLink RX8 1 objectInit ∈ lwA := (tm4 (i := 66) rfl rfl)
theorem wk_8 : Cond.code yX8_init cX8_init 1 none ∈ lwA := (tm4 (i := 65) rfl rfl)
theorem wm_8 : Cond.instanceMethod yX8_init ∈ lwA := (tm4 (i := 64) rfl rfl)
theorem wi_8 : Cond.initialized yX8_init.cls ∈ lwA := (tm1 (i := 9) rfl rfl)
def fs0_8 : List Value := [.null, .null, .null, .int 0, .int 0, .null, .null, .null, .null, .null, .int 0, .null, .int 0, .int 0]
theorem df_8 : ∀ j, j < nf 8 → defaultValue (fty 8 j) = vp_V fs0_8 j := by
  intro j hj
  have hj : j < 14 := hj
  rcases (show j = 0 ∨ j = 1 ∨ j = 2 ∨ j = 3 ∨ j = 4 ∨ j = 5 ∨ j = 6 ∨ j = 7 ∨ j = 8 ∨ j = 9 ∨ j = 10 ∨ j = 11 ∨ j = 12 ∨ j = 13 by omega) with rfl | rfl | rfl | rfl | rfl | rfl | rfl | rfl | rfl | rfl | rfl | rfl | rfl | rfl <;> rfl
def rm_8 : Room := { frames := 1, cells := 9, slots := 3098, locals := 12 }
theorem wl_L_68_i : Cond.methodLink RL 68 yX7_init ∈ lwA := (tm1 (i := 19) rfl rfl)
theorem wl_X7_9_i : Cond.methodLink RX7 9 yX6_init ∈ lwA := (tm1 (i := 27) rfl rfl)
theorem wl_X7_18_i : Cond.methodLink RX7 18 yX1_init ∈ lwA := (tm1 (i := 48) rfl rfl)
theorem wl_X1_17_i : Cond.methodLink RX1 17 yX2_init ∈ lwA := (tm1 (i := 55) rfl rfl)
theorem wl_X7_28_i : Cond.methodLink RX7 28 yX3_init ∈ lwA := (tm1 (i := 177) rfl rfl)
theorem wl_X3_17_i : Cond.methodLink RX3 17 yX1_init ∈ lwA := (tm1 (i := 183) rfl rfl)
theorem wl_X7_35_i : Cond.methodLink RX7 35 yX4_init ∈ lwA := (tm1 (i := 194) rfl rfl)
theorem wl_L_71_i : Cond.methodLink RL 71 yX8_init ∈ lwA := (tm4 (i := 63) rfl rfl)
theorem wn_L_8 : Cond.classLink RL 8 (fcl 7).1 ∈ lwA := (tm1 (i := 17) rfl rfl)
theorem wn_X7_7 : Cond.classLink RX7 7 (fcl 6).1 ∈ lwA := (tm1 (i := 25) rfl rfl)
theorem wn_X7_16 : Cond.classLink RX7 16 (fcl 1).1 ∈ lwA := (tm1 (i := 46) rfl rfl)
theorem wn_X1_9 : Cond.classLink RX1 9 (fcl 2).1 ∈ lwA := (tm1 (i := 52) rfl rfl)
theorem wn_X2_15 : Cond.classLink RX2 15 (fcl 0).1 ∈ lwA := (tm1 (i := 59) rfl rfl)
theorem wn_X7_26 : Cond.classLink RX7 26 (fcl 3).1 ∈ lwA := (tm1 (i := 175) rfl rfl)
theorem wn_X3_9 : Cond.classLink RX3 9 (fcl 1).1 ∈ lwA := (tm1 (i := 181) rfl rfl)
theorem wn_X7_33 : Cond.classLink RX7 33 (fcl 4).1 ∈ lwA := (tm1 (i := 192) rfl rfl)
theorem wn_X4_18 : Cond.classLink RX4 18 (fcl 0).1 ∈ lwA := (tm1 (i := 198) rfl rfl)
theorem wn_X4_25 : Cond.classLink RX4 25 (fcl 5).1 ∈ lwA := (tm1 (i := 200) rfl rfl)
theorem wn_L_69 : Cond.classLink RL 69 (fcl 8).1 ∈ lwA := (tm4 (i := 61) rfl rfl)
theorem wt_0 : Cond.instantiable (fcl 0).1 (nf 0) ∈ lwA := (tm1 (i := 60) rfl rfl)
theorem wz_0 : Cond.initialized (fcl 0).1 ∈ lwA := wi_0
theorem wt_1 : Cond.instantiable (fcl 1).1 (nf 1) ∈ lwA := (tm1 (i := 47) rfl rfl)
theorem wz_1 : Cond.initialized (fcl 1).1 ∈ lwA := wi_1
theorem wt_2 : Cond.instantiable (fcl 2).1 (nf 2) ∈ lwA := (tm1 (i := 54) rfl rfl)
theorem wz_2 : Cond.initialized (fcl 2).1 ∈ lwA := wi_2
theorem wt_3 : Cond.instantiable (fcl 3).1 (nf 3) ∈ lwA := (tm1 (i := 176) rfl rfl)
theorem wz_3 : Cond.initialized (fcl 3).1 ∈ lwA := wi_3
theorem wt_4 : Cond.instantiable (fcl 4).1 (nf 4) ∈ lwA := (tm1 (i := 193) rfl rfl)
theorem wz_4 : Cond.initialized (fcl 4).1 ∈ lwA := wi_4
theorem wt_5 : Cond.instantiable (fcl 5).1 (nf 5) ∈ lwA := (tm1 (i := 201) rfl rfl)
theorem wz_5 : Cond.initialized (fcl 5).1 ∈ lwA := wi_5
theorem wt_6 : Cond.instantiable (fcl 6).1 (nf 6) ∈ lwA := (tm1 (i := 26) rfl rfl)
theorem wz_6 : Cond.initialized (fcl 6).1 ∈ lwA := wi_6
theorem wt_7 : Cond.instantiable (fcl 7).1 (nf 7) ∈ lwA := (tm1 (i := 18) rfl rfl)
theorem wz_7 : Cond.initialized (fcl 7).1 ∈ lwA := wi_7
theorem wt_8 : Cond.instantiable (fcl 8).1 (nf 8) ∈ lwA := (tm4 (i := 62) rfl rfl)
theorem wz_8 : Cond.initialized (fcl 8).1 ∈ lwA := wi_8
theorem wq_L_8 : ∀ w ∈ ([.classLink RL 8 (fcl 7).1, .instantiable (fcl 7).1 (nf 7), .initialized (fcl 7).1] : List Cond), w ∈ lwA := List.forall_mem_cons.mpr ⟨wn_L_8, List.forall_mem_cons.mpr ⟨wt_7, List.forall_mem_cons.mpr ⟨wz_7, fun _ h => absurd h List.not_mem_nil⟩⟩⟩
theorem wq_X7_7 : ∀ w ∈ ([.classLink RX7 7 (fcl 6).1, .instantiable (fcl 6).1 (nf 6), .initialized (fcl 6).1] : List Cond), w ∈ lwA := List.forall_mem_cons.mpr ⟨wn_X7_7, List.forall_mem_cons.mpr ⟨wt_6, List.forall_mem_cons.mpr ⟨wz_6, fun _ h => absurd h List.not_mem_nil⟩⟩⟩
theorem wq_X7_16 : ∀ w ∈ ([.classLink RX7 16 (fcl 1).1, .instantiable (fcl 1).1 (nf 1), .initialized (fcl 1).1] : List Cond), w ∈ lwA := List.forall_mem_cons.mpr ⟨wn_X7_16, List.forall_mem_cons.mpr ⟨wt_1, List.forall_mem_cons.mpr ⟨wz_1, fun _ h => absurd h List.not_mem_nil⟩⟩⟩
theorem wq_X1_9 : ∀ w ∈ ([.classLink RX1 9 (fcl 2).1, .instantiable (fcl 2).1 (nf 2), .initialized (fcl 2).1] : List Cond), w ∈ lwA := List.forall_mem_cons.mpr ⟨wn_X1_9, List.forall_mem_cons.mpr ⟨wt_2, List.forall_mem_cons.mpr ⟨wz_2, fun _ h => absurd h List.not_mem_nil⟩⟩⟩
theorem wq_X2_15 : ∀ w ∈ ([.classLink RX2 15 (fcl 0).1, .instantiable (fcl 0).1 (nf 0), .initialized (fcl 0).1] : List Cond), w ∈ lwA := List.forall_mem_cons.mpr ⟨wn_X2_15, List.forall_mem_cons.mpr ⟨wt_0, List.forall_mem_cons.mpr ⟨wz_0, fun _ h => absurd h List.not_mem_nil⟩⟩⟩
theorem wq_X7_26 : ∀ w ∈ ([.classLink RX7 26 (fcl 3).1, .instantiable (fcl 3).1 (nf 3), .initialized (fcl 3).1] : List Cond), w ∈ lwA := List.forall_mem_cons.mpr ⟨wn_X7_26, List.forall_mem_cons.mpr ⟨wt_3, List.forall_mem_cons.mpr ⟨wz_3, fun _ h => absurd h List.not_mem_nil⟩⟩⟩
theorem wq_X3_9 : ∀ w ∈ ([.classLink RX3 9 (fcl 1).1, .instantiable (fcl 1).1 (nf 1), .initialized (fcl 1).1] : List Cond), w ∈ lwA := List.forall_mem_cons.mpr ⟨wn_X3_9, List.forall_mem_cons.mpr ⟨wt_1, List.forall_mem_cons.mpr ⟨wz_1, fun _ h => absurd h List.not_mem_nil⟩⟩⟩
theorem wq_X7_33 : ∀ w ∈ ([.classLink RX7 33 (fcl 4).1, .instantiable (fcl 4).1 (nf 4), .initialized (fcl 4).1] : List Cond), w ∈ lwA := List.forall_mem_cons.mpr ⟨wn_X7_33, List.forall_mem_cons.mpr ⟨wt_4, List.forall_mem_cons.mpr ⟨wz_4, fun _ h => absurd h List.not_mem_nil⟩⟩⟩
theorem wq_X4_18 : ∀ w ∈ ([.classLink RX4 18 (fcl 0).1, .instantiable (fcl 0).1 (nf 0), .initialized (fcl 0).1] : List Cond), w ∈ lwA := List.forall_mem_cons.mpr ⟨wn_X4_18, List.forall_mem_cons.mpr ⟨wt_0, List.forall_mem_cons.mpr ⟨wz_0, fun _ h => absurd h List.not_mem_nil⟩⟩⟩
theorem wq_X4_25 : ∀ w ∈ ([.classLink RX4 25 (fcl 5).1, .instantiable (fcl 5).1 (nf 5), .initialized (fcl 5).1] : List Cond), w ∈ lwA := List.forall_mem_cons.mpr ⟨wn_X4_25, List.forall_mem_cons.mpr ⟨wt_5, List.forall_mem_cons.mpr ⟨wz_5, fun _ h => absurd h List.not_mem_nil⟩⟩⟩
theorem wq_L_69 : ∀ w ∈ ([.classLink RL 69 (fcl 8).1, .instantiable (fcl 8).1 (nf 8), .initialized (fcl 8).1] : List Cond), w ∈ lwA := List.forall_mem_cons.mpr ⟨wn_L_69, List.forall_mem_cons.mpr ⟨wt_8, List.forall_mem_cons.mpr ⟨wz_8, fun _ h => absurd h List.not_mem_nil⟩⟩⟩
def sh_0 (Γ : Ga) (a : Nat → Nat) (E : Nat → va_E) (k n : Nat) : Prop := E k = .inr (0, [.int 0, .int 0, .int 0, .int 0, .int 0, .int 0])
def sh_5 (Γ : Ga) (a : Nat → Nat) (E : Nat → va_E) (k n : Nat) : Prop := E k = .inr (5, [.int 0, .int 0, .int 0, .int 0, .int 0, .int 0, .int 0])
def sh_6 (Γ : Ga) (a : Nat → Nat) (E : Nat → va_E) (k n : Nat) : Prop := E k = .inr (6, [.ref (a n), .int 0, .int 0, .int 0]) ∧ E n = .inl (Γ.2.1 0, 200, .inl fun _ => 0)
def sh_2 (Γ : Ga) (a : Nat → Nat) (E : Nat → va_E) (k n : Nat) : Prop := E k = .inr (2, [.ref (a n), .ref (a (n + 1)), .int 0, .int 0, .int 0, .int 0]) ∧ E n = .inl (Γ.2.1 0, 10, .inl fun _ => 0) ∧ sh_0 Γ a E (n + 1) (n + 2)
def sh_4 (Γ : Ga) (a : Nat → Nat) (E : Nat → va_E) (k n : Nat) : Prop := E k = .inr (4, [.ref (a n), .ref (a (n + 1)), .ref (a (n + 2)), .ref (a (n + 3)), .int 0, .int 0]) ∧ E n = .inl (Γ.2.1 0, 24, .inl fun _ => 0) ∧ E (n + 1) = .inl (Γ.2.1 0, 24, .inl fun _ => 0) ∧ sh_0 Γ a E (n + 2) (n + 3) ∧ sh_5 Γ a E (n + 3) (n + 4)
def sh_1 (Γ : Ga) (a : Nat → Nat) (E : Nat → va_E) (k n : Nat) : Prop := E k = .inr (1, [.ref (a n), .int 0, .int 60, .int 40, .int 0, .int 2, .int 5, .int 0]) ∧ (∃ f : Nat → Option Nat, E n = .inl (Γ.2.1 3, 24, .inr (.inr (.inr (.inr f)))) ∧ ∀ j, j < 24 → f j = some (a (n + 1 + 3 * j))) ∧ ∀ j, j < 24 → sh_2 Γ a E (n + 1 + 3 * j) (n + 2 + 3 * j)
def sh_3 (Γ : Ga) (a : Nat → Nat) (E : Nat → va_E) (k n : Nat) : Prop := E k = .inr (3, [.ref (a n), .int 0]) ∧ (∃ f : Nat → Option Nat, E n = .inl (Γ.2.1 2, 4, .inr (.inr (.inr (.inr f)))) ∧ ∀ j, j < 4 → f j = some (a (n + 1 + 74 * j))) ∧ ∀ j, j < 4 → sh_1 Γ a E (n + 1 + 74 * j) (n + 2 + 74 * j)
def sh_7 (Γ : Ga) (a : Nat → Nat) (E : Nat → va_E) (k n : Nat) : Prop := E k = .inr (7, [.ref (a n), .ref (a (n + 2)), .ref (a (n + 76)), .ref (a (n + 150)), .ref (a (n + 448)), .ref (a (n + 453))]) ∧ sh_6 Γ a E n (n + 1) ∧ sh_1 Γ a E (n + 2) (n + 3) ∧ sh_1 Γ a E (n + 76) (n + 77) ∧ sh_3 Γ a E (n + 150) (n + 151) ∧ sh_4 Γ a E (n + 448) (n + 449) ∧ E (n + 453) = .inl (Γ.2.1 1, 80, .inl fun _ => 0)
def sh_8 (Γ : Ga) (a : Nat → Nat) (E : Nat → va_E) (k n : Nat) : Prop := E k = .inr (8, [.ref (a n), .ref (a (n + 1)), .ref (a (n + 2)), .int 0, .int 0, .ref (a (n + 3)), .ref (a (n + 4)), .ref (a (n + 5)), .ref (a (n + 6)), .ref (a (n + 7)), .int 0, .ref (a (n + 8)), .int 0, .int 0]) ∧ E n = .inl (Γ.2.1 0, 463, .inl (upd (upd (upd (upd (fun _ => 0) 0 60) 1 40) 3 2) 4 5)) ∧ E (n + 1) = .inl (Γ.2.1 0, 1852, .inl fun _ => 0) ∧ E (n + 2) = .inl (Γ.2.1 0, 463, .inl fun _ => 0) ∧ E (n + 3) = .inl (Γ.2.1 0, 24, .inl fun _ => 0) ∧ E (n + 4) = .inl (Γ.2.1 0, 24, .inl fun _ => 0) ∧ E (n + 5) = .inl (Γ.2.1 0, 24, .inl fun _ => 0) ∧ E (n + 6) = .inl (Γ.2.1 0, 24, .inl fun _ => 0) ∧ E (n + 7) = .inl (Γ.2.1 0, 24, .inl fun _ => 0) ∧ E (n + 8) = .inl (Γ.2.1 0, 200, .inl fun _ => 0)
theorem sk_0 {Γ : Ga} {a a1 : Nat → Nat} {E E1 : Nat → va_E} {k n : Nat} (hk : a1 k = a k ∧ E1 k = E k) (h : ∀ j, n ≤ j → j < n + 0 → a1 j = a j ∧ E1 j = E j) (S : sh_0 Γ a E k n) : sh_0 Γ a1 E1 k n := by
  unfold sh_0 at *; rw [hk.2]; exact S
theorem sk_5 {Γ : Ga} {a a1 : Nat → Nat} {E E1 : Nat → va_E} {k n : Nat} (hk : a1 k = a k ∧ E1 k = E k) (h : ∀ j, n ≤ j → j < n + 0 → a1 j = a j ∧ E1 j = E j) (S : sh_5 Γ a E k n) : sh_5 Γ a1 E1 k n := by
  unfold sh_5 at *; rw [hk.2]; exact S
theorem sk_6 {Γ : Ga} {a a1 : Nat → Nat} {E E1 : Nat → va_E} {k n : Nat} (hk : a1 k = a k ∧ E1 k = E k) (h : ∀ j, n ≤ j → j < n + 1 → a1 j = a j ∧ E1 j = E j) (S : sh_6 Γ a E k n) : sh_6 Γ a1 E1 k n := by
  unfold sh_6 at *; rw [hk.2, (h n (by omega) (by omega)).1, (h n (by omega) (by omega)).2]; exact S
theorem sk_2 {Γ : Ga} {a a1 : Nat → Nat} {E E1 : Nat → va_E} {k n : Nat} (hk : a1 k = a k ∧ E1 k = E k) (h : ∀ j, n ≤ j → j < n + 2 → a1 j = a j ∧ E1 j = E j) (S : sh_2 Γ a E k n) : sh_2 Γ a1 E1 k n := by
  obtain ⟨S1, S2, S3⟩ := S
  refine ⟨?_, ?_, sk_0 (h (n + 1) (by omega) (by omega)) (fun j h1 h2 => by omega) S3⟩
  · rw [hk.2, (h n (by omega) (by omega)).1, (h (n + 1) (by omega) (by omega)).1]; exact S1
  · rw [(h n (by omega) (by omega)).2]; exact S2
theorem sk_4 {Γ : Ga} {a a1 : Nat → Nat} {E E1 : Nat → va_E} {k n : Nat} (hk : a1 k = a k ∧ E1 k = E k) (h : ∀ j, n ≤ j → j < n + 4 → a1 j = a j ∧ E1 j = E j) (S : sh_4 Γ a E k n) : sh_4 Γ a1 E1 k n := by
  obtain ⟨S1, S2, S3, S4, S5⟩ := S
  refine ⟨?_, ?_, ?_, sk_0 (h (n + 2) (by omega) (by omega)) (fun j h1 h2 => by omega) S4, sk_5 (h (n + 3) (by omega) (by omega)) (fun j h1 h2 => by omega) S5⟩
  · rw [hk.2, (h n (by omega) (by omega)).1, (h (n + 1) (by omega) (by omega)).1, (h (n + 2) (by omega) (by omega)).1, (h (n + 3) (by omega) (by omega)).1]; exact S1
  · rw [(h n (by omega) (by omega)).2]; exact S2
  · rw [(h (n + 1) (by omega) (by omega)).2]; exact S3
theorem sk_1 {Γ : Ga} {a a1 : Nat → Nat} {E E1 : Nat → va_E} {k n : Nat} (hk : a1 k = a k ∧ E1 k = E k) (h : ∀ j, n ≤ j → j < n + 73 → a1 j = a j ∧ E1 j = E j) (S : sh_1 Γ a E k n) : sh_1 Γ a1 E1 k n := by
  obtain ⟨S1, ⟨f, S2, S3⟩, S4⟩ := S
  refine ⟨?_, ⟨f, ?_, fun j hj => ?_⟩, fun j hj => sk_2 (h _ (by omega) (by omega)) (fun i h1 h2 => h i (by omega) (by omega)) (S4 j hj)⟩
  · rw [hk.2, (h n (by omega) (by omega)).1]; exact S1
  · rw [(h n (by omega) (by omega)).2]; exact S2
  · rw [S3 j hj, (h (n + 1 + 3 * j) (by omega) (by omega)).1]
theorem sk_3 {Γ : Ga} {a a1 : Nat → Nat} {E E1 : Nat → va_E} {k n : Nat} (hk : a1 k = a k ∧ E1 k = E k) (h : ∀ j, n ≤ j → j < n + 297 → a1 j = a j ∧ E1 j = E j) (S : sh_3 Γ a E k n) : sh_3 Γ a1 E1 k n := by
  obtain ⟨S1, ⟨f, S2, S3⟩, S4⟩ := S
  refine ⟨?_, ⟨f, ?_, fun j hj => ?_⟩, fun j hj => sk_1 (h _ (by omega) (by omega)) (fun i h1 h2 => h i (by omega) (by omega)) (S4 j hj)⟩
  · rw [hk.2, (h n (by omega) (by omega)).1]; exact S1
  · rw [(h n (by omega) (by omega)).2]; exact S2
  · rw [S3 j hj, (h (n + 1 + 74 * j) (by omega) (by omega)).1]
theorem sk_7 {Γ : Ga} {a a1 : Nat → Nat} {E E1 : Nat → va_E} {k n : Nat} (hk : a1 k = a k ∧ E1 k = E k) (h : ∀ j, n ≤ j → j < n + 454 → a1 j = a j ∧ E1 j = E j) (S : sh_7 Γ a E k n) : sh_7 Γ a1 E1 k n := by
  obtain ⟨S1, S2, S3, S4, S5, S6, S7⟩ := S
  have hh : ∀ j, j < 454 → a1 (n + j) = a (n + j) ∧ E1 (n + j) = E (n + j) := fun j hj => h _ (by omega) (by omega)
  refine ⟨?_, sk_6 (hh 0 (by omega)) (fun i h1 h2 => h i (by omega) (by omega)) S2, sk_1 (hh 2 (by omega)) (fun i h1 h2 => h i (by omega) (by omega)) S3, sk_1 (hh 76 (by omega)) (fun i h1 h2 => h i (by omega) (by omega)) S4, sk_3 (hh 150 (by omega)) (fun i h1 h2 => h i (by omega) (by omega)) S5, sk_4 (hh 448 (by omega)) (fun i h1 h2 => h i (by omega) (by omega)) S6, ?_⟩
  · rw [hk.2, (h n (by omega) (by omega)).1, (hh 2 (by omega)).1, (hh 76 (by omega)).1, (hh 150 (by omega)).1, (hh 448 (by omega)).1, (hh 453 (by omega)).1]; exact S1
  · rw [(hh 453 (by omega)).2]; exact S7
theorem sk_8 {Γ : Ga} {a a1 : Nat → Nat} {E E1 : Nat → va_E} {k n : Nat} (hk : a1 k = a k ∧ E1 k = E k) (h : ∀ j, n ≤ j → j < n + 9 → a1 j = a j ∧ E1 j = E j) (S : sh_8 Γ a E k n) : sh_8 Γ a1 E1 k n := by
  have hh : ∀ j, j < 9 → a1 (n + j) = a (n + j) ∧ E1 (n + j) = E (n + j) := fun j hj => h _ (by omega) (by omega)
  unfold sh_8 at *
  rw [hk.2, (h n (by omega) (by omega)).1, (h n (by omega) (by omega)).2, (hh 1 (by omega)).1, (hh 1 (by omega)).2, (hh 2 (by omega)).1, (hh 2 (by omega)).2, (hh 3 (by omega)).1, (hh 3 (by omega)).2, (hh 4 (by omega)).1, (hh 4 (by omega)).2, (hh 5 (by omega)).1, (hh 5 (by omega)).2, (hh 6 (by omega)).1, (hh 6 (by omega)).2, (hh 7 (by omega)).1, (hh 7 (by omega)).2, (hh 8 (by omega)).1, (hh 8 (by omega)).2]
  exact S
set_option maxHeartbeats 4000000 in
set_option maxRecDepth 100000 in
theorem cX0 (l : Launch) : CC l yX0_init cX0_init 1 rm_0 0 0 0 0 fs0_0 sh_0 := by
  intro Γ a E n k0 hk0 he0
  obtain ⟨r0, fa_0⟩ : ∃ r0, a k0 = r0 := ⟨_, rfl⟩
  rw [fa_0]
  refine Met.ofW (cc := cX0_init) (maxL := 1) (ret := none) (by decide) rfl ?_
  intro p e s m args below meth c s₁ B hml hv
  obtain ⟨rfl, hbase, hN, hG⟩ := hv
  have hx := B.exec
  have hb := B.bytes
  have hr := B.returns
  have hts0 := atoms_spec (ws := wsy yX0_init cX0_init 1 none) B.pre
  have hts : ∀ w ∈ lwA, w.before ([.ref r0] : List Value).toArray s = true := fun w hw => hts0 w (List.mem_cons_of_mem _ hw)
  have hown : s.vm.findClass RX0 = some m.cls := findClass_of_methodNamed B.named
  have hin : meth.name = "<init>" := (name_of_methodNamed B.named B.method).1
  have hS : va_S (gA Γ) s.heap s.heap [] := va_S.rf
  have hl := lv_entry ([.ref r0]) (n := 1) (Nat.le_of_ble_eq_true rfl)
  rw [lg_entry_eq]
  generalize (lg_sl ([.ref r0]) ++ List.replicate (1 - (lg_sl ([.ref r0])).length) Slot.unset).toArray = ls at hl ⊢
  have hl : lv_has ls 1 [(0, .ref r0)] := hl
  have fE_0 := he0
  have hfr0 : ∀ j, j < n → a j = a j := fun _ _ => rfl
  have hfrE0 : ∀ j, j < n → j ≠ k0 → E j = E j := fun _ _ _ => rfl
  refine lv_aload_n hx hb dX0_init_0 rfl (lv_at hl 0 rfl) ?_
  refine W.objInit hx hb hown (hts _ wo_0) (hts _ wo_i) (hts _ wo_c) rfl (by rw [hml]; exact hl.1) rfl dX0_init_1 (Nat.le_of_ble_eq_true rfl) (Nat.le_of_ble_eq_true rfl) ?_
  refine W.eq (g2 := F0 m 4 ls []) rfl ?_
  refine W.widen (k := 0) (n := 0) (by decide) (by decide) ?_
  exact W.vret hx hb hr (fun t ht hW => ⟨⟨(a, E), rfl, ⟨hfr0, hfrE0, fE_0⟩, by show GW Γ _ _ _ t t.heap; rw [ht]; exact gw_moved hW.alike hG⟩, hS.F ht⟩) hS.2.2 dX0_init_4
set_option maxHeartbeats 4000000 in
set_option maxRecDepth 100000 in
theorem cX5 (l : Launch) : CC l yX5_init cX5_init 1 rm_5 0 0 0 5 fs0_5 sh_5 := by
  intro Γ a E n k0 hk0 he0
  obtain ⟨r0, fa_0⟩ : ∃ r0, a k0 = r0 := ⟨_, rfl⟩
  rw [fa_0]
  refine Met.ofW (cc := cX5_init) (maxL := 1) (ret := none) (by decide) rfl ?_
  intro p e s m args below meth c s₁ B hml hv
  obtain ⟨rfl, hbase, hN, hG⟩ := hv
  have hx := B.exec
  have hb := B.bytes
  have hr := B.returns
  have hts0 := atoms_spec (ws := wsy yX5_init cX5_init 1 none) B.pre
  have hts : ∀ w ∈ lwA, w.before ([.ref r0] : List Value).toArray s = true := fun w hw => hts0 w (List.mem_cons_of_mem _ hw)
  have hown : s.vm.findClass RX5 = some m.cls := findClass_of_methodNamed B.named
  have hin : meth.name = "<init>" := (name_of_methodNamed B.named B.method).1
  have hS : va_S (gA Γ) s.heap s.heap [] := va_S.rf
  have hl := lv_entry ([.ref r0]) (n := 1) (Nat.le_of_ble_eq_true rfl)
  rw [lg_entry_eq]
  generalize (lg_sl ([.ref r0]) ++ List.replicate (1 - (lg_sl ([.ref r0])).length) Slot.unset).toArray = ls at hl ⊢
  have hl : lv_has ls 1 [(0, .ref r0)] := hl
  have fE_0 := he0
  have hfr0 : ∀ j, j < n → a j = a j := fun _ _ => rfl
  have hfrE0 : ∀ j, j < n → j ≠ k0 → E j = E j := fun _ _ _ => rfl
  refine lv_aload_n hx hb dX5_init_0 rfl (lv_at hl 0 rfl) ?_
  refine W.objInit hx hb hown (hts _ wo_5) (hts _ wo_i) (hts _ wo_c) rfl (by rw [hml]; exact hl.1) rfl dX5_init_1 (Nat.le_of_ble_eq_true rfl) (Nat.le_of_ble_eq_true rfl) ?_
  refine W.eq (g2 := F0 m 4 ls []) rfl ?_
  refine W.widen (k := 0) (n := 0) (by decide) (by decide) ?_
  exact W.vret hx hb hr (fun t ht hW => ⟨⟨(a, E), rfl, ⟨hfr0, hfrE0, fE_0⟩, by show GW Γ _ _ _ t t.heap; rw [ht]; exact gw_moved hW.alike hG⟩, hS.F ht⟩) hS.2.2 dX5_init_4
set_option maxHeartbeats 4000000 in
set_option maxRecDepth 100000 in
theorem cX6 (l : Launch) : CC l yX6_init cX6_init 1 rm_6 1 200 1 6 fs0_6 sh_6 := by
  intro Γ a E n k0 hk0 he0
  obtain ⟨r0, fa_0⟩ : ∃ r0, a k0 = r0 := ⟨_, rfl⟩
  rw [fa_0]
  refine Met.ofW (cc := cX6_init) (maxL := 1) (ret := none) (by decide) rfl ?_
  intro p e s m args below meth c s₁ B hml hv
  obtain ⟨rfl, hbase, hN, hG⟩ := hv
  have hx := B.exec
  have hb := B.bytes
  have hr := B.returns
  have hts0 := atoms_spec (ws := wsy yX6_init cX6_init 1 none) B.pre
  have hts : ∀ w ∈ lwA, w.before ([.ref r0] : List Value).toArray s = true := fun w hw => hts0 w (List.mem_cons_of_mem _ hw)
  have hown : s.vm.findClass RX6 = some m.cls := findClass_of_methodNamed B.named
  have hin : meth.name = "<init>" := (name_of_methodNamed B.named B.method).1
  have hS : va_S (gA Γ) s.heap s.heap [] := va_S.rf
  have hl := lv_entry ([.ref r0]) (n := 1) (Nat.le_of_ble_eq_true rfl)
  rw [lg_entry_eq]
  generalize (lg_sl ([.ref r0]) ++ List.replicate (1 - (lg_sl ([.ref r0])).length) Slot.unset).toArray = ls at hl ⊢
  have hl : lv_has ls 1 [(0, .ref r0)] := hl
  have fE_0 := he0
  have hfr0 : ∀ j, j < n → a j = a j := fun _ _ => rfl
  have hfrE0 : ∀ j, j < n → j ≠ k0 → E j = E j := fun _ _ _ => rfl
  refine lv_aload_n hx hb dX6_init_0 rfl (lv_at hl 0 rfl) ?_
  refine W.objInit hx hb hown (hts _ wo_6) (hts _ wo_i) (hts _ wo_c) rfl (by rw [hml]; exact hl.1) rfl dX6_init_1 (Nat.le_of_ble_eq_true rfl) (Nat.le_of_ble_eq_true rfl) ?_
  refine W.eq (g2 := F0 m 4 ls []) rfl ?_
  refine lv_aload_n hx hb dX6_init_4 rfl (lv_at hl 0 rfl) ?_
  refine lv_sipush hx hb dX6_init_5 (v := 200) (by decide +kernel) ?_
  refine t_newa hx hb hts hG hS hbase .int .int 0 rfl rfl wa_int (N' := 200) (a0 := (200, .inl fun _ => 0)) (fun _ => rfl) (by decide) (by decide +kernel) (Nat.le_of_ble_eq_true rfl) (n1 := n + 1) (by omega) (c1 := 1) (s1 := 200) rfl rfl (Nat.le_of_ble_eq_true rfl) (Nat.le_of_ble_eq_true rfl) dX6_init_8 (fun q1 a1 E1 H1 hag1 ga1 gE1 hG hS => ?_)
  have fa_0_1 : a1 k0 = r0 := (hag1 _ (by omega)).1.trans fa_0
  have fE_0_1 : E1 k0 = (.inr (6, fs0_6)) := (hag1 _ (by omega)).2.trans fE_0
  have hfr1 : ∀ j, j < n → a1 j = a j := fun j hj => (hag1 j (by omega)).1.trans (hfr0 j hj)
  have hfrE1 : ∀ j, j < n → j ≠ k0 → E1 j = E j := fun j hj hne => (hag1 j (by omega)).2.trans (hfrE0 j hj hne)
  refine t_putF (ci := 6) (k := k0) (j := 0) (fs1 := [.ref q1, .int 0, .int 0, .int 0]) hx hb hts hown hG hS (by decide) (by omega) fa_0_1 fE_0_1 (by decide) (ftX6_ok _ (lookup_mem ftX6_9)).2.2 rfl hin rfl rfl rfl (Nat.le_of_ble_eq_true rfl) rfl dX6_init_10 (fun E2 H2 locs2 hne2 gE2 hG hS => ?_)
  have gE1_2 : E2 n = (.inl (Γ.2.1 0, 200, .inl fun _ => 0)) := (hne2 _ (by omega)).trans gE1
  have hfrE2 : ∀ j, j < n → j ≠ k0 → E2 j = E j := fun j hj hk => (hne2 j hk).trans (hfrE1 j hj hk)
  refine W.widen (k := 1) (n := 200) (by decide) (by decide) ?_
  rw [← ga1] at gE2
  exact W.vret hx hb hr (fun t ht hW => ⟨⟨(a1, E2), rfl, ⟨hfr1, hfrE2, ⟨gE2, gE1_2⟩⟩, by show GW Γ _ _ _ t t.heap; rw [ht]; exact gw_moved hW.alike hG⟩, hS.F ht⟩) hS.2.2 dX6_init_13
set_option maxHeartbeats 4000000 in
set_option maxRecDepth 100000 in
theorem cX8 (l : Launch) : CC l yX8_init cX8_init 1 rm_8 9 3098 9 8 fs0_8 sh_8 := by
  intro Γ a E n k0 hk0 he0
  obtain ⟨r0, fa_0⟩ : ∃ r0, a k0 = r0 := ⟨_, rfl⟩
  rw [fa_0]
  refine Met.ofW (cc := cX8_init) (maxL := 1) (ret := none) (by decide) rfl ?_
  intro p e s m args below meth c s₁ B hml hv
  obtain ⟨rfl, hbase, hN, hG⟩ := hv
  have hx := B.exec
  have hb := B.bytes
  have hr := B.returns
  have hts0 := atoms_spec (ws := wsy yX8_init cX8_init 1 none) B.pre
  have hts : ∀ w ∈ lwA, w.before ([.ref r0] : List Value).toArray s = true := fun w hw => hts0 w (List.mem_cons_of_mem _ hw)
  have hown : s.vm.findClass RX8 = some m.cls := findClass_of_methodNamed B.named
  have hin : meth.name = "<init>" := (name_of_methodNamed B.named B.method).1
  have hS : va_S (gA Γ) s.heap s.heap [] := va_S.rf
  have hl := lv_entry ([.ref r0]) (n := 1) (Nat.le_of_ble_eq_true rfl)
  rw [lg_entry_eq]
  generalize (lg_sl ([.ref r0]) ++ List.replicate (1 - (lg_sl ([.ref r0])).length) Slot.unset).toArray = ls at hl ⊢
  have hl : lv_has ls 1 [(0, .ref r0)] := hl
  have fE_0 := he0
  have hfr0 : ∀ j, j < n → a j = a j := fun _ _ => rfl
  have hfrE0 : ∀ j, j < n → j ≠ k0 → E j = E j := fun _ _ _ => rfl
  refine lv_aload_n hx hb dX8_init_0 rfl (lv_at hl 0 rfl) ?_
  refine W.objInit hx hb hown (hts _ wo_8) (hts _ wo_i) (hts _ wo_c) rfl (by rw [hml]; exact hl.1) rfl dX8_init_1 (Nat.le_of_ble_eq_true rfl) (Nat.le_of_ble_eq_true rfl) ?_
  refine W.eq (g2 := F0 m 4 ls []) rfl ?_
  refine lv_aload_n hx hb dX8_init_4 rfl (lv_at hl 0 rfl) ?_
  refine lv_sipush hx hb dX8_init_5 (v := 463) (by decide +kernel) ?_
  refine t_newa hx hb hts hG hS hbase .int .int 0 rfl rfl wa_int (N' := 463) (a0 := (463, .inl fun _ => 0)) (fun _ => rfl) (by decide) (by decide +kernel) (Nat.le_of_ble_eq_true rfl) (n1 := n + 1) (by omega) (c1 := 1) (s1 := 463) rfl rfl (Nat.le_of_ble_eq_true rfl) (Nat.le_of_ble_eq_true rfl) dX8_init_8 (fun q1 a1 E1 H1 hag1 ga1 gE1 hG hS => ?_)
  have fa_0_1 : a1 k0 = r0 := (hag1 _ (by omega)).1.trans fa_0
  have fE_0_1 : E1 k0 = (.inr (8, fs0_8)) := (hag1 _ (by omega)).2.trans fE_0
  have hfr1 : ∀ j, j < n → a1 j = a j := fun j hj => (hag1 j (by omega)).1.trans (hfr0 j hj)
  have hfrE1 : ∀ j, j < n → j ≠ k0 → E1 j = E j := fun j hj hne => (hag1 j (by omega)).2.trans (hfrE0 j hj hne)
  refine t_putF (ci := 8) (k := k0) (j := 0) (fs1 := [.ref q1, .null, .null, .int 0, .int 0, .null, .null, .null, .null, .null, .int 0, .null, .int 0, .int 0]) hx hb hts hown hG hS (by decide) (by omega) fa_0_1 fE_0_1 (by decide) (ftX8_ok _ (lookup_mem ftX8_7)).2.2 rfl hin rfl rfl rfl (Nat.le_of_ble_eq_true rfl) rfl dX8_init_10 (fun E2 H2 locs2 hne2 gE2 hG hS => ?_)
  have gE1_2 : E2 n = (.inl (Γ.2.1 0, 463, .inl fun _ => 0)) := (hne2 _ (by omega)).trans gE1
  have hfrE2 : ∀ j, j < n → j ≠ k0 → E2 j = E j := fun j hj hk => (hne2 j hk).trans (hfrE1 j hj hk)
  refine lv_aload_n hx hb dX8_init_13 rfl (lv_at hl 0 rfl) ?_
  refine lv_sipush hx hb dX8_init_14 (v := 1852) (by decide +kernel) ?_
  refine t_newa hx hb hts hG hS hbase .int .int 0 rfl rfl wa_int (N' := 1852) (a0 := (1852, .inl fun _ => 0)) (fun _ => rfl) (by decide) (by decide +kernel) (Nat.le_of_ble_eq_true rfl) (n1 := n + 2) (by omega) (c1 := 2) (s1 := 2315) rfl rfl (Nat.le_of_ble_eq_true rfl) (Nat.le_of_ble_eq_true rfl) dX8_init_17 (fun q3 a3 E3 H3 hag3 ga3 gE3 hG hS => ?_)
  have fa_0_1_3 : a3 k0 = r0 := (hag3 _ (by omega)).1.trans fa_0_1
  have gE2_3 : E3 k0 = (.inr (8, [.ref q1, .null, .null, .int 0, .int 0, .null, .null, .null, .null, .null, .int 0, .null, .int 0, .int 0])) := (hag3 _ (by omega)).2.trans gE2
  have ga1_3 : a3 n = q1 := (hag3 _ (by omega)).1.trans ga1
  have gE1_2_3 : E3 n = (.inl (Γ.2.1 0, 463, .inl fun _ => 0)) := (hag3 _ (by omega)).2.trans gE1_2
  have hfr3 : ∀ j, j < n → a3 j = a j := fun j hj => (hag3 j (by omega)).1.trans (hfr1 j hj)
  have hfrE3 : ∀ j, j < n → j ≠ k0 → E3 j = E j := fun j hj hne => (hag3 j (by omega)).2.trans (hfrE2 j hj hne)
  refine t_putF (ci := 8) (k := k0) (j := 1) (fs1 := [.ref q1, .ref q3, .null, .int 0, .int 0, .null, .null, .null, .null, .null, .int 0, .null, .int 0, .int 0]) hx hb hts hown hG hS (by decide) (by omega) fa_0_1_3 gE2_3 (by decide) (ftX8_ok _ (lookup_mem ftX8_13)).2.2 rfl hin rfl rfl rfl (Nat.le_of_ble_eq_true rfl) rfl dX8_init_19 (fun E4 H4 locs4 hne4 gE4 hG hS => ?_)
  have gE1_2_3_4 : E4 n = (.inl (Γ.2.1 0, 463, .inl fun _ => 0)) := (hne4 _ (by omega)).trans gE1_2_3
  have gE3_4 : E4 (n + 1) = (.inl (Γ.2.1 0, 1852, .inl fun _ => 0)) := (hne4 _ (by omega)).trans gE3
  have hfrE4 : ∀ j, j < n → j ≠ k0 → E4 j = E j := fun j hj hk => (hne4 j hk).trans (hfrE3 j hj hk)
  refine lv_aload_n hx hb dX8_init_22 rfl (lv_at hl 0 rfl) ?_
  refine lv_sipush hx hb dX8_init_23 (v := 463) (by decide +kernel) ?_
  refine t_newa hx hb hts hG hS hbase .int .int 0 rfl rfl wa_int (N' := 463) (a0 := (463, .inl fun _ => 0)) (fun _ => rfl) (by decide) (by decide +kernel) (Nat.le_of_ble_eq_true rfl) (n1 := n + 3) (by omega) (c1 := 3) (s1 := 2778) rfl rfl (Nat.le_of_ble_eq_true rfl) (Nat.le_of_ble_eq_true rfl) dX8_init_26 (fun q5 a5 E5 H5 hag5 ga5 gE5 hG hS => ?_)
  have fa_0_1_3_5 : a5 k0 = r0 := (hag5 _ (by omega)).1.trans fa_0_1_3
  have gE4_5 : E5 k0 = (.inr (8, [.ref q1, .ref q3, .null, .int 0, .int 0, .null, .null, .null, .null, .null, .int 0, .null, .int 0, .int 0])) := (hag5 _ (by omega)).2.trans gE4
  have ga1_3_5 : a5 n = q1 := (hag5 _ (by omega)).1.trans ga1_3
  have gE1_2_3_4_5 : E5 n = (.inl (Γ.2.1 0, 463, .inl fun _ => 0)) := (hag5 _ (by omega)).2.trans gE1_2_3_4
  have ga3_5 : a5 (n + 1) = q3 := (hag5 _ (by omega)).1.trans ga3
  have gE3_4_5 : E5 (n + 1) = (.inl (Γ.2.1 0, 1852, .inl fun _ => 0)) := (hag5 _ (by omega)).2.trans gE3_4
  have hfr5 : ∀ j, j < n → a5 j = a j := fun j hj => (hag5 j (by omega)).1.trans (hfr3 j hj)
  have hfrE5 : ∀ j, j < n → j ≠ k0 → E5 j = E j := fun j hj hne => (hag5 j (by omega)).2.trans (hfrE4 j hj hne)
  refine t_putF (ci := 8) (k := k0) (j := 2) (fs1 := [.ref q1, .ref q3, .ref q5, .int 0, .int 0, .null, .null, .null, .null, .null, .int 0, .null, .int 0, .int 0]) hx hb hts hown hG hS (by decide) (by omega) fa_0_1_3_5 gE4_5 (by decide) (ftX8_ok _ (lookup_mem ftX8_16)).2.2 rfl hin rfl rfl rfl (Nat.le_of_ble_eq_true rfl) rfl dX8_init_28 (fun E6 H6 locs6 hne6 gE6 hG hS => ?_)
  have gE1_2_3_4_5_6 : E6 n = (.inl (Γ.2.1 0, 463, .inl fun _ => 0)) := (hne6 _ (by omega)).trans gE1_2_3_4_5
  have gE3_4_5_6 : E6 (n + 1) = (.inl (Γ.2.1 0, 1852, .inl fun _ => 0)) := (hne6 _ (by omega)).trans gE3_4_5
  have gE5_6 : E6 (n + 2) = (.inl (Γ.2.1 0, 463, .inl fun _ => 0)) := (hne6 _ (by omega)).trans gE5
  have hfrE6 : ∀ j, j < n → j ≠ k0 → E6 j = E j := fun j hj hk => (hne6 j hk).trans (hfrE5 j hj hk)
  refine lv_aload_n hx hb dX8_init_31 rfl (lv_at hl 0 rfl) ?_
  refine lv_bipush hx hb dX8_init_32 (v := 24) (by decide +kernel) ?_
  refine t_newa hx hb hts hG hS hbase .int .int 0 rfl rfl wa_int (N' := 24) (a0 := (24, .inl fun _ => 0)) (fun _ => rfl) (by decide) (by decide +kernel) (Nat.le_of_ble_eq_true rfl) (n1 := n + 4) (by omega) (c1 := 4) (s1 := 2802) rfl rfl (Nat.le_of_ble_eq_true rfl) (Nat.le_of_ble_eq_true rfl) dX8_init_34 (fun q7 a7 E7 H7 hag7 ga7 gE7 hG hS => ?_)
  have fa_0_1_3_5_7 : a7 k0 = r0 := (hag7 _ (by omega)).1.trans fa_0_1_3_5
  have gE6_7 : E7 k0 = (.inr (8, [.ref q1, .ref q3, .ref q5, .int 0, .int 0, .null, .null, .null, .null, .null, .int 0, .null, .int 0, .int 0])) := (hag7 _ (by omega)).2.trans gE6
  have ga1_3_5_7 : a7 n = q1 := (hag7 _ (by omega)).1.trans ga1_3_5
  have gE1_2_3_4_5_6_7 : E7 n = (.inl (Γ.2.1 0, 463, .inl fun _ => 0)) := (hag7 _ (by omega)).2.trans gE1_2_3_4_5_6
  have ga3_5_7 : a7 (n + 1) = q3 := (hag7 _ (by omega)).1.trans ga3_5
  have gE3_4_5_6_7 : E7 (n + 1) = (.inl (Γ.2.1 0, 1852, .inl fun _ => 0)) := (hag7 _ (by omega)).2.trans gE3_4_5_6
  have ga5_7 : a7 (n + 2) = q5 := (hag7 _ (by omega)).1.trans ga5
  have gE5_6_7 : E7 (n + 2) = (.inl (Γ.2.1 0, 463, .inl fun _ => 0)) := (hag7 _ (by omega)).2.trans gE5_6
  have hfr7 : ∀ j, j < n → a7 j = a j := fun j hj => (hag7 j (by omega)).1.trans (hfr5 j hj)
  have hfrE7 : ∀ j, j < n → j ≠ k0 → E7 j = E j := fun j hj hne => (hag7 j (by omega)).2.trans (hfrE6 j hj hne)
  refine t_putF (ci := 8) (k := k0) (j := 5) (fs1 := [.ref q1, .ref q3, .ref q5, .int 0, .int 0, .ref q7, .null, .null, .null, .null, .int 0, .null, .int 0, .int 0]) hx hb hts hown hG hS (by decide) (by omega) fa_0_1_3_5_7 gE6_7 (by decide) (ftX8_ok _ (lookup_mem ftX8_19)).2.2 rfl hin rfl rfl rfl (Nat.le_of_ble_eq_true rfl) rfl dX8_init_36 (fun E8 H8 locs8 hne8 gE8 hG hS => ?_)
  have gE1_2_3_4_5_6_7_8 : E8 n = (.inl (Γ.2.1 0, 463, .inl fun _ => 0)) := (hne8 _ (by omega)).trans gE1_2_3_4_5_6_7
  have gE3_4_5_6_7_8 : E8 (n + 1) = (.inl (Γ.2.1 0, 1852, .inl fun _ => 0)) := (hne8 _ (by omega)).trans gE3_4_5_6_7
  have gE5_6_7_8 : E8 (n + 2) = (.inl (Γ.2.1 0, 463, .inl fun _ => 0)) := (hne8 _ (by omega)).trans gE5_6_7
  have gE7_8 : E8 (n + 3) = (.inl (Γ.2.1 0, 24, .inl fun _ => 0)) := (hne8 _ (by omega)).trans gE7
  have hfrE8 : ∀ j, j < n → j ≠ k0 → E8 j = E j := fun j hj hk => (hne8 j hk).trans (hfrE7 j hj hk)
  refine lv_aload_n hx hb dX8_init_39 rfl (lv_at hl 0 rfl) ?_
  refine lv_bipush hx hb dX8_init_40 (v := 24) (by decide +kernel) ?_
  refine t_newa hx hb hts hG hS hbase .int .int 0 rfl rfl wa_int (N' := 24) (a0 := (24, .inl fun _ => 0)) (fun _ => rfl) (by decide) (by decide +kernel) (Nat.le_of_ble_eq_true rfl) (n1 := n + 5) (by omega) (c1 := 5) (s1 := 2826) rfl rfl (Nat.le_of_ble_eq_true rfl) (Nat.le_of_ble_eq_true rfl) dX8_init_42 (fun q9 a9 E9 H9 hag9 ga9 gE9 hG hS => ?_)
  have fa_0_1_3_5_7_9 : a9 k0 = r0 := (hag9 _ (by omega)).1.trans fa_0_1_3_5_7
  have gE8_9 : E9 k0 = (.inr (8, [.ref q1, .ref q3, .ref q5, .int 0, .int 0, .ref q7, .null, .null, .null, .null, .int 0, .null, .int 0, .int 0])) := (hag9 _ (by omega)).2.trans gE8
  have ga1_3_5_7_9 : a9 n = q1 := (hag9 _ (by omega)).1.trans ga1_3_5_7
  have gE1_2_3_4_5_6_7_8_9 : E9 n = (.inl (Γ.2.1 0, 463, .inl fun _ => 0)) := (hag9 _ (by omega)).2.trans gE1_2_3_4_5_6_7_8
  have ga3_5_7_9 : a9 (n + 1) = q3 := (hag9 _ (by omega)).1.trans ga3_5_7
  have gE3_4_5_6_7_8_9 : E9 (n + 1) = (.inl (Γ.2.1 0, 1852, .inl fun _ => 0)) := (hag9 _ (by omega)).2.trans gE3_4_5_6_7_8
  have ga5_7_9 : a9 (n + 2) = q5 := (hag9 _ (by omega)).1.trans ga5_7
  have gE5_6_7_8_9 : E9 (n + 2) = (.inl (Γ.2.1 0, 463, .inl fun _ => 0)) := (hag9 _ (by omega)).2.trans gE5_6_7_8
  have ga7_9 : a9 (n + 3) = q7 := (hag9 _ (by omega)).1.trans ga7
  have gE7_8_9 : E9 (n + 3) = (.inl (Γ.2.1 0, 24, .inl fun _ => 0)) := (hag9 _ (by omega)).2.trans gE7_8
  have hfr9 : ∀ j, j < n → a9 j = a j := fun j hj => (hag9 j (by omega)).1.trans (hfr7 j hj)
  have hfrE9 : ∀ j, j < n → j ≠ k0 → E9 j = E j := fun j hj hne => (hag9 j (by omega)).2.trans (hfrE8 j hj hne)
  refine t_putF (ci := 8) (k := k0) (j := 6) (fs1 := [.ref q1, .ref q3, .ref q5, .int 0, .int 0, .ref q7, .ref q9, .null, .null, .null, .int 0, .null, .int 0, .int 0]) hx hb hts hown hG hS (by decide) (by omega) fa_0_1_3_5_7_9 gE8_9 (by decide) (ftX8_ok _ (lookup_mem ftX8_22)).2.2 rfl hin rfl rfl rfl (Nat.le_of_ble_eq_true rfl) rfl dX8_init_44 (fun E10 H10 locs10 hne10 gE10 hG hS => ?_)
  have gE1_2_3_4_5_6_7_8_9_10 : E10 n = (.inl (Γ.2.1 0, 463, .inl fun _ => 0)) := (hne10 _ (by omega)).trans gE1_2_3_4_5_6_7_8_9
  have gE3_4_5_6_7_8_9_10 : E10 (n + 1) = (.inl (Γ.2.1 0, 1852, .inl fun _ => 0)) := (hne10 _ (by omega)).trans gE3_4_5_6_7_8_9
  have gE5_6_7_8_9_10 : E10 (n + 2) = (.inl (Γ.2.1 0, 463, .inl fun _ => 0)) := (hne10 _ (by omega)).trans gE5_6_7_8_9
  have gE7_8_9_10 : E10 (n + 3) = (.inl (Γ.2.1 0, 24, .inl fun _ => 0)) := (hne10 _ (by omega)).trans gE7_8_9
  have gE9_10 : E10 (n + 4) = (.inl (Γ.2.1 0, 24, .inl fun _ => 0)) := (hne10 _ (by omega)).trans gE9
  have hfrE10 : ∀ j, j < n → j ≠ k0 → E10 j = E j := fun j hj hk => (hne10 j hk).trans (hfrE9 j hj hk)
  refine lv_aload_n hx hb dX8_init_47 rfl (lv_at hl 0 rfl) ?_
  refine lv_bipush hx hb dX8_init_48 (v := 24) (by decide +kernel) ?_
  refine t_newa hx hb hts hG hS hbase .int .int 0 rfl rfl wa_int (N' := 24) (a0 := (24, .inl fun _ => 0)) (fun _ => rfl) (by decide) (by decide +kernel) (Nat.le_of_ble_eq_true rfl) (n1 := n + 6) (by omega) (c1 := 6) (s1 := 2850) rfl rfl (Nat.le_of_ble_eq_true rfl) (Nat.le_of_ble_eq_true rfl) dX8_init_50 (fun q11 a11 E11 H11 hag11 ga11 gE11 hG hS => ?_)
  have fa_0_1_3_5_7_9_11 : a11 k0 = r0 := (hag11 _ (by omega)).1.trans fa_0_1_3_5_7_9
  have gE10_11 : E11 k0 = (.inr (8, [.ref q1, .ref q3, .ref q5, .int 0, .int 0, .ref q7, .ref q9, .null, .null, .null, .int 0, .null, .int 0, .int 0])) := (hag11 _ (by omega)).2.trans gE10
  have ga1_3_5_7_9_11 : a11 n = q1 := (hag11 _ (by omega)).1.trans ga1_3_5_7_9
  have gE1_2_3_4_5_6_7_8_9_10_11 : E11 n = (.inl (Γ.2.1 0, 463, .inl fun _ => 0)) := (hag11 _ (by omega)).2.trans gE1_2_3_4_5_6_7_8_9_10
  have ga3_5_7_9_11 : a11 (n + 1) = q3 := (hag11 _ (by omega)).1.trans ga3_5_7_9
  have gE3_4_5_6_7_8_9_10_11 : E11 (n + 1) = (.inl (Γ.2.1 0, 1852, .inl fun _ => 0)) := (hag11 _ (by omega)).2.trans gE3_4_5_6_7_8_9_10
  have ga5_7_9_11 : a11 (n + 2) = q5 := (hag11 _ (by omega)).1.trans ga5_7_9
  have gE5_6_7_8_9_10_11 : E11 (n + 2) = (.inl (Γ.2.1 0, 463, .inl fun _ => 0)) := (hag11 _ (by omega)).2.trans gE5_6_7_8_9_10
  have ga7_9_11 : a11 (n + 3) = q7 := (hag11 _ (by omega)).1.trans ga7_9
  have gE7_8_9_10_11 : E11 (n + 3) = (.inl (Γ.2.1 0, 24, .inl fun _ => 0)) := (hag11 _ (by omega)).2.trans gE7_8_9_10
  have ga9_11 : a11 (n + 4) = q9 := (hag11 _ (by omega)).1.trans ga9
  have gE9_10_11 : E11 (n + 4) = (.inl (Γ.2.1 0, 24, .inl fun _ => 0)) := (hag11 _ (by omega)).2.trans gE9_10
  have hfr11 : ∀ j, j < n → a11 j = a j := fun j hj => (hag11 j (by omega)).1.trans (hfr9 j hj)
  have hfrE11 : ∀ j, j < n → j ≠ k0 → E11 j = E j := fun j hj hne => (hag11 j (by omega)).2.trans (hfrE10 j hj hne)
  refine t_putF (ci := 8) (k := k0) (j := 7) (fs1 := [.ref q1, .ref q3, .ref q5, .int 0, .int 0, .ref q7, .ref q9, .ref q11, .null, .null, .int 0, .null, .int 0, .int 0]) hx hb hts hown hG hS (by decide) (by omega) fa_0_1_3_5_7_9_11 gE10_11 (by decide) (ftX8_ok _ (lookup_mem ftX8_25)).2.2 rfl hin rfl rfl rfl (Nat.le_of_ble_eq_true rfl) rfl dX8_init_52 (fun E12 H12 locs12 hne12 gE12 hG hS => ?_)
  have gE1_2_3_4_5_6_7_8_9_10_11_12 : E12 n = (.inl (Γ.2.1 0, 463, .inl fun _ => 0)) := (hne12 _ (by omega)).trans gE1_2_3_4_5_6_7_8_9_10_11
  have gE3_4_5_6_7_8_9_10_11_12 : E12 (n + 1) = (.inl (Γ.2.1 0, 1852, .inl fun _ => 0)) := (hne12 _ (by omega)).trans gE3_4_5_6_7_8_9_10_11
  have gE5_6_7_8_9_10_11_12 : E12 (n + 2) = (.inl (Γ.2.1 0, 463, .inl fun _ => 0)) := (hne12 _ (by omega)).trans gE5_6_7_8_9_10_11
  have gE7_8_9_10_11_12 : E12 (n + 3) = (.inl (Γ.2.1 0, 24, .inl fun _ => 0)) := (hne12 _ (by omega)).trans gE7_8_9_10_11
  have gE9_10_11_12 : E12 (n + 4) = (.inl (Γ.2.1 0, 24, .inl fun _ => 0)) := (hne12 _ (by omega)).trans gE9_10_11
  have gE11_12 : E12 (n + 5) = (.inl (Γ.2.1 0, 24, .inl fun _ => 0)) := (hne12 _ (by omega)).trans gE11
  have hfrE12 : ∀ j, j < n → j ≠ k0 → E12 j = E j := fun j hj hk => (hne12 j hk).trans (hfrE11 j hj hk)
  refine lv_aload_n hx hb dX8_init_55 rfl (lv_at hl 0 rfl) ?_
  refine lv_bipush hx hb dX8_init_56 (v := 24) (by decide +kernel) ?_
  refine t_newa hx hb hts hG hS hbase .int .int 0 rfl rfl wa_int (N' := 24) (a0 := (24, .inl fun _ => 0)) (fun _ => rfl) (by decide) (by decide +kernel) (Nat.le_of_ble_eq_true rfl) (n1 := n + 7) (by omega) (c1 := 7) (s1 := 2874) rfl rfl (Nat.le_of_ble_eq_true rfl) (Nat.le_of_ble_eq_true rfl) dX8_init_58 (fun q13 a13 E13 H13 hag13 ga13 gE13 hG hS => ?_)
  have fa_0_1_3_5_7_9_11_13 : a13 k0 = r0 := (hag13 _ (by omega)).1.trans fa_0_1_3_5_7_9_11
  have gE12_13 : E13 k0 = (.inr (8, [.ref q1, .ref q3, .ref q5, .int 0, .int 0, .ref q7, .ref q9, .ref q11, .null, .null, .int 0, .null, .int 0, .int 0])) := (hag13 _ (by omega)).2.trans gE12
  have ga1_3_5_7_9_11_13 : a13 n = q1 := (hag13 _ (by omega)).1.trans ga1_3_5_7_9_11
  have gE1_2_3_4_5_6_7_8_9_10_11_12_13 : E13 n = (.inl (Γ.2.1 0, 463, .inl fun _ => 0)) := (hag13 _ (by omega)).2.trans gE1_2_3_4_5_6_7_8_9_10_11_12
  have ga3_5_7_9_11_13 : a13 (n + 1) = q3 := (hag13 _ (by omega)).1.trans ga3_5_7_9_11
  have gE3_4_5_6_7_8_9_10_11_12_13 : E13 (n + 1) = (.inl (Γ.2.1 0, 1852, .inl fun _ => 0)) := (hag13 _ (by omega)).2.trans gE3_4_5_6_7_8_9_10_11_12
  have ga5_7_9_11_13 : a13 (n + 2) = q5 := (hag13 _ (by omega)).1.trans ga5_7_9_11
  have gE5_6_7_8_9_10_11_12_13 : E13 (n + 2) = (.inl (Γ.2.1 0, 463, .inl fun _ => 0)) := (hag13 _ (by omega)).2.trans gE5_6_7_8_9_10_11_12
  have ga7_9_11_13 : a13 (n + 3) = q7 := (hag13 _ (by omega)).1.trans ga7_9_11
  have gE7_8_9_10_11_12_13 : E13 (n + 3) = (.inl (Γ.2.1 0, 24, .inl fun _ => 0)) := (hag13 _ (by omega)).2.trans gE7_8_9_10_11_12
  have ga9_11_13 : a13 (n + 4) = q9 := (hag13 _ (by omega)).1.trans ga9_11
  have gE9_10_11_12_13 : E13 (n + 4) = (.inl (Γ.2.1 0, 24, .inl fun _ => 0)) := (hag13 _ (by omega)).2.trans gE9_10_11_12
  have ga11_13 : a13 (n + 5) = q11 := (hag13 _ (by omega)).1.trans ga11
  have gE11_12_13 : E13 (n + 5) = (.inl (Γ.2.1 0, 24, .inl fun _ => 0)) := (hag13 _ (by omega)).2.trans gE11_12
  have hfr13 : ∀ j, j < n → a13 j = a j := fun j hj => (hag13 j (by omega)).1.trans (hfr11 j hj)
  have hfrE13 : ∀ j, j < n → j ≠ k0 → E13 j = E j := fun j hj hne => (hag13 j (by omega)).2.trans (hfrE12 j hj hne)
  refine t_putF (ci := 8) (k := k0) (j := 8) (fs1 := [.ref q1, .ref q3, .ref q5, .int 0, .int 0, .ref q7, .ref q9, .ref q11, .ref q13, .null, .int 0, .null, .int 0, .int 0]) hx hb hts hown hG hS (by decide) (by omega) fa_0_1_3_5_7_9_11_13 gE12_13 (by decide) (ftX8_ok _ (lookup_mem ftX8_28)).2.2 rfl hin rfl rfl rfl (Nat.le_of_ble_eq_true rfl) rfl dX8_init_60 (fun E14 H14 locs14 hne14 gE14 hG hS => ?_)
  have gE1_2_3_4_5_6_7_8_9_10_11_12_13_14 : E14 n = (.inl (Γ.2.1 0, 463, .inl fun _ => 0)) := (hne14 _ (by omega)).trans gE1_2_3_4_5_6_7_8_9_10_11_12_13
  have gE3_4_5_6_7_8_9_10_11_12_13_14 : E14 (n + 1) = (.inl (Γ.2.1 0, 1852, .inl fun _ => 0)) := (hne14 _ (by omega)).trans gE3_4_5_6_7_8_9_10_11_12_13
  have gE5_6_7_8_9_10_11_12_13_14 : E14 (n + 2) = (.inl (Γ.2.1 0, 463, .inl fun _ => 0)) := (hne14 _ (by omega)).trans gE5_6_7_8_9_10_11_12_13
  have gE7_8_9_10_11_12_13_14 : E14 (n + 3) = (.inl (Γ.2.1 0, 24, .inl fun _ => 0)) := (hne14 _ (by omega)).trans gE7_8_9_10_11_12_13
  have gE9_10_11_12_13_14 : E14 (n + 4) = (.inl (Γ.2.1 0, 24, .inl fun _ => 0)) := (hne14 _ (by omega)).trans gE9_10_11_12_13
  have gE11_12_13_14 : E14 (n + 5) = (.inl (Γ.2.1 0, 24, .inl fun _ => 0)) := (hne14 _ (by omega)).trans gE11_12_13
  have gE13_14 : E14 (n + 6) = (.inl (Γ.2.1 0, 24, .inl fun _ => 0)) := (hne14 _ (by omega)).trans gE13
  have hfrE14 : ∀ j, j < n → j ≠ k0 → E14 j = E j := fun j hj hk => (hne14 j hk).trans (hfrE13 j hj hk)
  refine lv_aload_n hx hb dX8_init_63 rfl (lv_at hl 0 rfl) ?_
  refine lv_bipush hx hb dX8_init_64 (v := 24) (by decide +kernel) ?_
  refine t_newa hx hb hts hG hS hbase .int .int 0 rfl rfl wa_int (N' := 24) (a0 := (24, .inl fun _ => 0)) (fun _ => rfl) (by decide) (by decide +kernel) (Nat.le_of_ble_eq_true rfl) (n1 := n + 8) (by omega) (c1 := 8) (s1 := 2898) rfl rfl (Nat.le_of_ble_eq_true rfl) (Nat.le_of_ble_eq_true rfl) dX8_init_66 (fun q15 a15 E15 H15 hag15 ga15 gE15 hG hS => ?_)
  have fa_0_1_3_5_7_9_11_13_15 : a15 k0 = r0 := (hag15 _ (by omega)).1.trans fa_0_1_3_5_7_9_11_13
  have gE14_15 : E15 k0 = (.inr (8, [.ref q1, .ref q3, .ref q5, .int 0, .int 0, .ref q7, .ref q9, .ref q11, .ref q13, .null, .int 0, .null, .int 0, .int 0])) := (hag15 _ (by omega)).2.trans gE14
  have ga1_3_5_7_9_11_13_15 : a15 n = q1 := (hag15 _ (by omega)).1.trans ga1_3_5_7_9_11_13
  have gE1_2_3_4_5_6_7_8_9_10_11_12_13_14_15 : E15 n = (.inl (Γ.2.1 0, 463, .inl fun _ => 0)) := (hag15 _ (by omega)).2.trans gE1_2_3_4_5_6_7_8_9_10_11_12_13_14
  have ga3_5_7_9_11_13_15 : a15 (n + 1) = q3 := (hag15 _ (by omega)).1.trans ga3_5_7_9_11_13
  have gE3_4_5_6_7_8_9_10_11_12_13_14_15 : E15 (n + 1) = (.inl (Γ.2.1 0, 1852, .inl fun _ => 0)) := (hag15 _ (by omega)).2.trans gE3_4_5_6_7_8_9_10_11_12_13_14
  have ga5_7_9_11_13_15 : a15 (n + 2) = q5 := (hag15 _ (by omega)).1.trans ga5_7_9_11_13
  have gE5_6_7_8_9_10_11_12_13_14_15 : E15 (n + 2) = (.inl (Γ.2.1 0, 463, .inl fun _ => 0)) := (hag15 _ (by omega)).2.trans gE5_6_7_8_9_10_11_12_13_14
  have ga7_9_11_13_15 : a15 (n + 3) = q7 := (hag15 _ (by omega)).1.trans ga7_9_11_13
  have gE7_8_9_10_11_12_13_14_15 : E15 (n + 3) = (.inl (Γ.2.1 0, 24, .inl fun _ => 0)) := (hag15 _ (by omega)).2.trans gE7_8_9_10_11_12_13_14
  have ga9_11_13_15 : a15 (n + 4) = q9 := (hag15 _ (by omega)).1.trans ga9_11_13
  have gE9_10_11_12_13_14_15 : E15 (n + 4) = (.inl (Γ.2.1 0, 24, .inl fun _ => 0)) := (hag15 _ (by omega)).2.trans gE9_10_11_12_13_14
  have ga11_13_15 : a15 (n + 5) = q11 := (hag15 _ (by omega)).1.trans ga11_13
  have gE11_12_13_14_15 : E15 (n + 5) = (.inl (Γ.2.1 0, 24, .inl fun _ => 0)) := (hag15 _ (by omega)).2.trans gE11_12_13_14
  have ga13_15 : a15 (n + 6) = q13 := (hag15 _ (by omega)).1.trans ga13
  have gE13_14_15 : E15 (n + 6) = (.inl (Γ.2.1 0, 24, .inl fun _ => 0)) := (hag15 _ (by omega)).2.trans gE13_14
  have hfr15 : ∀ j, j < n → a15 j = a j := fun j hj => (hag15 j (by omega)).1.trans (hfr13 j hj)
  have hfrE15 : ∀ j, j < n → j ≠ k0 → E15 j = E j := fun j hj hne => (hag15 j (by omega)).2.trans (hfrE14 j hj hne)
  refine t_putF (ci := 8) (k := k0) (j := 9) (fs1 := [.ref q1, .ref q3, .ref q5, .int 0, .int 0, .ref q7, .ref q9, .ref q11, .ref q13, .ref q15, .int 0, .null, .int 0, .int 0]) hx hb hts hown hG hS (by decide) (by omega) fa_0_1_3_5_7_9_11_13_15 gE14_15 (by decide) (ftX8_ok _ (lookup_mem ftX8_31)).2.2 rfl hin rfl rfl rfl (Nat.le_of_ble_eq_true rfl) rfl dX8_init_68 (fun E16 H16 locs16 hne16 gE16 hG hS => ?_)
  have gE1_2_3_4_5_6_7_8_9_10_11_12_13_14_15_16 : E16 n = (.inl (Γ.2.1 0, 463, .inl fun _ => 0)) := (hne16 _ (by omega)).trans gE1_2_3_4_5_6_7_8_9_10_11_12_13_14_15
  have gE3_4_5_6_7_8_9_10_11_12_13_14_15_16 : E16 (n + 1) = (.inl (Γ.2.1 0, 1852, .inl fun _ => 0)) := (hne16 _ (by omega)).trans gE3_4_5_6_7_8_9_10_11_12_13_14_15
  have gE5_6_7_8_9_10_11_12_13_14_15_16 : E16 (n + 2) = (.inl (Γ.2.1 0, 463, .inl fun _ => 0)) := (hne16 _ (by omega)).trans gE5_6_7_8_9_10_11_12_13_14_15
  have gE7_8_9_10_11_12_13_14_15_16 : E16 (n + 3) = (.inl (Γ.2.1 0, 24, .inl fun _ => 0)) := (hne16 _ (by omega)).trans gE7_8_9_10_11_12_13_14_15
  have gE9_10_11_12_13_14_15_16 : E16 (n + 4) = (.inl (Γ.2.1 0, 24, .inl fun _ => 0)) := (hne16 _ (by omega)).trans gE9_10_11_12_13_14_15
  have gE11_12_13_14_15_16 : E16 (n + 5) = (.inl (Γ.2.1 0, 24, .inl fun _ => 0)) := (hne16 _ (by omega)).trans gE11_12_13_14_15
  have gE13_14_15_16 : E16 (n + 6) = (.inl (Γ.2.1 0, 24, .inl fun _ => 0)) := (hne16 _ (by omega)).trans gE13_14_15
  have gE15_16 : E16 (n + 7) = (.inl (Γ.2.1 0, 24, .inl fun _ => 0)) := (hne16 _ (by omega)).trans gE15
  have hfrE16 : ∀ j, j < n → j ≠ k0 → E16 j = E j := fun j hj hk => (hne16 j hk).trans (hfrE15 j hj hk)
  refine lv_aload_n hx hb dX8_init_71 rfl (lv_at hl 0 rfl) ?_
  refine lv_sipush hx hb dX8_init_72 (v := 200) (by decide +kernel) ?_
  refine t_newa hx hb hts hG hS hbase .int .int 0 rfl rfl wa_int (N' := 200) (a0 := (200, .inl fun _ => 0)) (fun _ => rfl) (by decide) (by decide +kernel) (Nat.le_of_ble_eq_true rfl) (n1 := n + 9) (by omega) (c1 := 9) (s1 := 3098) rfl rfl (Nat.le_of_ble_eq_true rfl) (Nat.le_of_ble_eq_true rfl) dX8_init_75 (fun q17 a17 E17 H17 hag17 ga17 gE17 hG hS => ?_)
  have fa_0_1_3_5_7_9_11_13_15_17 : a17 k0 = r0 := (hag17 _ (by omega)).1.trans fa_0_1_3_5_7_9_11_13_15
  have gE16_17 : E17 k0 = (.inr (8, [.ref q1, .ref q3, .ref q5, .int 0, .int 0, .ref q7, .ref q9, .ref q11, .ref q13, .ref q15, .int 0, .null, .int 0, .int 0])) := (hag17 _ (by omega)).2.trans gE16
  have ga1_3_5_7_9_11_13_15_17 : a17 n = q1 := (hag17 _ (by omega)).1.trans ga1_3_5_7_9_11_13_15
  have gE1_2_3_4_5_6_7_8_9_10_11_12_13_14_15_16_17 : E17 n = (.inl (Γ.2.1 0, 463, .inl fun _ => 0)) := (hag17 _ (by omega)).2.trans gE1_2_3_4_5_6_7_8_9_10_11_12_13_14_15_16
  have ga3_5_7_9_11_13_15_17 : a17 (n + 1) = q3 := (hag17 _ (by omega)).1.trans ga3_5_7_9_11_13_15
  have gE3_4_5_6_7_8_9_10_11_12_13_14_15_16_17 : E17 (n + 1) = (.inl (Γ.2.1 0, 1852, .inl fun _ => 0)) := (hag17 _ (by omega)).2.trans gE3_4_5_6_7_8_9_10_11_12_13_14_15_16
  have ga5_7_9_11_13_15_17 : a17 (n + 2) = q5 := (hag17 _ (by omega)).1.trans ga5_7_9_11_13_15
  have gE5_6_7_8_9_10_11_12_13_14_15_16_17 : E17 (n + 2) = (.inl (Γ.2.1 0, 463, .inl fun _ => 0)) := (hag17 _ (by omega)).2.trans gE5_6_7_8_9_10_11_12_13_14_15_16
  have ga7_9_11_13_15_17 : a17 (n + 3) = q7 := (hag17 _ (by omega)).1.trans ga7_9_11_13_15
  have gE7_8_9_10_11_12_13_14_15_16_17 : E17 (n + 3) = (.inl (Γ.2.1 0, 24, .inl fun _ => 0)) := (hag17 _ (by omega)).2.trans gE7_8_9_10_11_12_13_14_15_16
  have ga9_11_13_15_17 : a17 (n + 4) = q9 := (hag17 _ (by omega)).1.trans ga9_11_13_15
  have gE9_10_11_12_13_14_15_16_17 : E17 (n + 4) = (.inl (Γ.2.1 0, 24, .inl fun _ => 0)) := (hag17 _ (by omega)).2.trans gE9_10_11_12_13_14_15_16
  have ga11_13_15_17 : a17 (n + 5) = q11 := (hag17 _ (by omega)).1.trans ga11_13_15
  have gE11_12_13_14_15_16_17 : E17 (n + 5) = (.inl (Γ.2.1 0, 24, .inl fun _ => 0)) := (hag17 _ (by omega)).2.trans gE11_12_13_14_15_16
  have ga13_15_17 : a17 (n + 6) = q13 := (hag17 _ (by omega)).1.trans ga13_15
  have gE13_14_15_16_17 : E17 (n + 6) = (.inl (Γ.2.1 0, 24, .inl fun _ => 0)) := (hag17 _ (by omega)).2.trans gE13_14_15_16
  have ga15_17 : a17 (n + 7) = q15 := (hag17 _ (by omega)).1.trans ga15
  have gE15_16_17 : E17 (n + 7) = (.inl (Γ.2.1 0, 24, .inl fun _ => 0)) := (hag17 _ (by omega)).2.trans gE15_16
  have hfr17 : ∀ j, j < n → a17 j = a j := fun j hj => (hag17 j (by omega)).1.trans (hfr15 j hj)
  have hfrE17 : ∀ j, j < n → j ≠ k0 → E17 j = E j := fun j hj hne => (hag17 j (by omega)).2.trans (hfrE16 j hj hne)
  refine t_putF (ci := 8) (k := k0) (j := 11) (fs1 := [.ref q1, .ref q3, .ref q5, .int 0, .int 0, .ref q7, .ref q9, .ref q11, .ref q13, .ref q15, .int 0, .ref q17, .int 0, .int 0]) hx hb hts hown hG hS (by decide) (by omega) fa_0_1_3_5_7_9_11_13_15_17 gE16_17 (by decide) (ftX8_ok _ (lookup_mem ftX8_34)).2.2 rfl hin rfl rfl rfl (Nat.le_of_ble_eq_true rfl) rfl dX8_init_77 (fun E18 H18 locs18 hne18 gE18 hG hS => ?_)
  have gE1_2_3_4_5_6_7_8_9_10_11_12_13_14_15_16_17_18 : E18 n = (.inl (Γ.2.1 0, 463, .inl fun _ => 0)) := (hne18 _ (by omega)).trans gE1_2_3_4_5_6_7_8_9_10_11_12_13_14_15_16_17
  have gE3_4_5_6_7_8_9_10_11_12_13_14_15_16_17_18 : E18 (n + 1) = (.inl (Γ.2.1 0, 1852, .inl fun _ => 0)) := (hne18 _ (by omega)).trans gE3_4_5_6_7_8_9_10_11_12_13_14_15_16_17
  have gE5_6_7_8_9_10_11_12_13_14_15_16_17_18 : E18 (n + 2) = (.inl (Γ.2.1 0, 463, .inl fun _ => 0)) := (hne18 _ (by omega)).trans gE5_6_7_8_9_10_11_12_13_14_15_16_17
  have gE7_8_9_10_11_12_13_14_15_16_17_18 : E18 (n + 3) = (.inl (Γ.2.1 0, 24, .inl fun _ => 0)) := (hne18 _ (by omega)).trans gE7_8_9_10_11_12_13_14_15_16_17
  have gE9_10_11_12_13_14_15_16_17_18 : E18 (n + 4) = (.inl (Γ.2.1 0, 24, .inl fun _ => 0)) := (hne18 _ (by omega)).trans gE9_10_11_12_13_14_15_16_17
  have gE11_12_13_14_15_16_17_18 : E18 (n + 5) = (.inl (Γ.2.1 0, 24, .inl fun _ => 0)) := (hne18 _ (by omega)).trans gE11_12_13_14_15_16_17
  have gE13_14_15_16_17_18 : E18 (n + 6) = (.inl (Γ.2.1 0, 24, .inl fun _ => 0)) := (hne18 _ (by omega)).trans gE13_14_15_16_17
  have gE15_16_17_18 : E18 (n + 7) = (.inl (Γ.2.1 0, 24, .inl fun _ => 0)) := (hne18 _ (by omega)).trans gE15_16_17
  have gE17_18 : E18 (n + 8) = (.inl (Γ.2.1 0, 200, .inl fun _ => 0)) := (hne18 _ (by omega)).trans gE17
  have hfrE18 : ∀ j, j < n → j ≠ k0 → E18 j = E j := fun j hj hk => (hne18 j hk).trans (hfrE17 j hj hk)
  refine lv_aload_n hx hb dX8_init_80 rfl (lv_at hl 0 rfl) ?_
  refine t_get (ci := 8) (k := k0) (j := 0) (v := .ref q1) hx hb hts hown hG (by decide) (by omega) fa_0_1_3_5_7_9_11_13_15_17 gE18 (by decide) (ftX8_ok _ (lookup_mem ftX8_7)).2.2 rfl dX8_init_81 ?_
  refine lv_iconst hx hb dX8_init_84 (v := 0) (by decide +kernel) ?_
  refine lv_bipush hx hb dX8_init_85 (v := 60) (by decide +kernel) ?_
  refine t_iast (k := n) (j := 0) hx hb hG hS (by omega) ga1_3_5_7_9_11_13_15_17 gE1_2_3_4_5_6_7_8_9_10_11_12_13_14_15_16_17_18 (by rw [vp_in_iff]; decide +kernel) (by decide +kernel) dX8_init_87 (fun E19 H19 locs19 hne19 gE19 hG hS => ?_)
  have gE18_19 : E19 k0 = (.inr (8, [.ref q1, .ref q3, .ref q5, .int 0, .int 0, .ref q7, .ref q9, .ref q11, .ref q13, .ref q15, .int 0, .ref q17, .int 0, .int 0])) := (hne19 _ (by omega)).trans gE18
  have gE3_4_5_6_7_8_9_10_11_12_13_14_15_16_17_18_19 : E19 (n + 1) = (.inl (Γ.2.1 0, 1852, .inl fun _ => 0)) := (hne19 _ (by omega)).trans gE3_4_5_6_7_8_9_10_11_12_13_14_15_16_17_18
  have gE5_6_7_8_9_10_11_12_13_14_15_16_17_18_19 : E19 (n + 2) = (.inl (Γ.2.1 0, 463, .inl fun _ => 0)) := (hne19 _ (by omega)).trans gE5_6_7_8_9_10_11_12_13_14_15_16_17_18
  have gE7_8_9_10_11_12_13_14_15_16_17_18_19 : E19 (n + 3) = (.inl (Γ.2.1 0, 24, .inl fun _ => 0)) := (hne19 _ (by omega)).trans gE7_8_9_10_11_12_13_14_15_16_17_18
  have gE9_10_11_12_13_14_15_16_17_18_19 : E19 (n + 4) = (.inl (Γ.2.1 0, 24, .inl fun _ => 0)) := (hne19 _ (by omega)).trans gE9_10_11_12_13_14_15_16_17_18
  have gE11_12_13_14_15_16_17_18_19 : E19 (n + 5) = (.inl (Γ.2.1 0, 24, .inl fun _ => 0)) := (hne19 _ (by omega)).trans gE11_12_13_14_15_16_17_18
  have gE13_14_15_16_17_18_19 : E19 (n + 6) = (.inl (Γ.2.1 0, 24, .inl fun _ => 0)) := (hne19 _ (by omega)).trans gE13_14_15_16_17_18
  have gE15_16_17_18_19 : E19 (n + 7) = (.inl (Γ.2.1 0, 24, .inl fun _ => 0)) := (hne19 _ (by omega)).trans gE15_16_17_18
  have gE17_18_19 : E19 (n + 8) = (.inl (Γ.2.1 0, 200, .inl fun _ => 0)) := (hne19 _ (by omega)).trans gE17_18
  have hfrE19 : ∀ j, j < n → j ≠ k0 → E19 j = E j := fun j hj hk => (hne19 j (by omega)).trans (hfrE18 j hj hk)
  refine lv_aload_n hx hb dX8_init_88 rfl (lv_at hl 0 rfl) ?_
  refine t_get (ci := 8) (k := k0) (j := 0) (v := .ref q1) hx hb hts hown hG (by decide) (by omega) fa_0_1_3_5_7_9_11_13_15_17 gE18_19 (by decide) (ftX8_ok _ (lookup_mem ftX8_7)).2.2 rfl dX8_init_89 ?_
  refine lv_iconst hx hb dX8_init_92 (v := 1) (by decide +kernel) ?_
  refine lv_bipush hx hb dX8_init_93 (v := 40) (by decide +kernel) ?_
  refine t_iast (k := n) (j := 1) hx hb hG hS (by omega) ga1_3_5_7_9_11_13_15_17 gE19 (by rw [vp_in_iff]; decide +kernel) (by decide +kernel) dX8_init_95 (fun E20 H20 locs20 hne20 gE20 hG hS => ?_)
  have gE18_19_20 : E20 k0 = (.inr (8, [.ref q1, .ref q3, .ref q5, .int 0, .int 0, .ref q7, .ref q9, .ref q11, .ref q13, .ref q15, .int 0, .ref q17, .int 0, .int 0])) := (hne20 _ (by omega)).trans gE18_19
  have gE3_4_5_6_7_8_9_10_11_12_13_14_15_16_17_18_19_20 : E20 (n + 1) = (.inl (Γ.2.1 0, 1852, .inl fun _ => 0)) := (hne20 _ (by omega)).trans gE3_4_5_6_7_8_9_10_11_12_13_14_15_16_17_18_19
  have gE5_6_7_8_9_10_11_12_13_14_15_16_17_18_19_20 : E20 (n + 2) = (.inl (Γ.2.1 0, 463, .inl fun _ => 0)) := (hne20 _ (by omega)).trans gE5_6_7_8_9_10_11_12_13_14_15_16_17_18_19
  have gE7_8_9_10_11_12_13_14_15_16_17_18_19_20 : E20 (n + 3) = (.inl (Γ.2.1 0, 24, .inl fun _ => 0)) := (hne20 _ (by omega)).trans gE7_8_9_10_11_12_13_14_15_16_17_18_19
  have gE9_10_11_12_13_14_15_16_17_18_19_20 : E20 (n + 4) = (.inl (Γ.2.1 0, 24, .inl fun _ => 0)) := (hne20 _ (by omega)).trans gE9_10_11_12_13_14_15_16_17_18_19
  have gE11_12_13_14_15_16_17_18_19_20 : E20 (n + 5) = (.inl (Γ.2.1 0, 24, .inl fun _ => 0)) := (hne20 _ (by omega)).trans gE11_12_13_14_15_16_17_18_19
  have gE13_14_15_16_17_18_19_20 : E20 (n + 6) = (.inl (Γ.2.1 0, 24, .inl fun _ => 0)) := (hne20 _ (by omega)).trans gE13_14_15_16_17_18_19
  have gE15_16_17_18_19_20 : E20 (n + 7) = (.inl (Γ.2.1 0, 24, .inl fun _ => 0)) := (hne20 _ (by omega)).trans gE15_16_17_18_19
  have gE17_18_19_20 : E20 (n + 8) = (.inl (Γ.2.1 0, 200, .inl fun _ => 0)) := (hne20 _ (by omega)).trans gE17_18_19
  have hfrE20 : ∀ j, j < n → j ≠ k0 → E20 j = E j := fun j hj hk => (hne20 j (by omega)).trans (hfrE19 j hj hk)
  refine lv_aload_n hx hb dX8_init_96 rfl (lv_at hl 0 rfl) ?_
  refine t_get (ci := 8) (k := k0) (j := 0) (v := .ref q1) hx hb hts hown hG (by decide) (by omega) fa_0_1_3_5_7_9_11_13_15_17 gE18_19_20 (by decide) (ftX8_ok _ (lookup_mem ftX8_7)).2.2 rfl dX8_init_97 ?_
  refine lv_iconst hx hb dX8_init_100 (v := 3) (by decide +kernel) ?_
  refine lv_iconst hx hb dX8_init_101 (v := 2) (by decide +kernel) ?_
  refine t_iast (k := n) (j := 3) hx hb hG hS (by omega) ga1_3_5_7_9_11_13_15_17 gE20 (by rw [vp_in_iff]; decide +kernel) (by decide +kernel) dX8_init_102 (fun E21 H21 locs21 hne21 gE21 hG hS => ?_)
  have gE18_19_20_21 : E21 k0 = (.inr (8, [.ref q1, .ref q3, .ref q5, .int 0, .int 0, .ref q7, .ref q9, .ref q11, .ref q13, .ref q15, .int 0, .ref q17, .int 0, .int 0])) := (hne21 _ (by omega)).trans gE18_19_20
  have gE3_4_5_6_7_8_9_10_11_12_13_14_15_16_17_18_19_20_21 : E21 (n + 1) = (.inl (Γ.2.1 0, 1852, .inl fun _ => 0)) := (hne21 _ (by omega)).trans gE3_4_5_6_7_8_9_10_11_12_13_14_15_16_17_18_19_20
  have gE5_6_7_8_9_10_11_12_13_14_15_16_17_18_19_20_21 : E21 (n + 2) = (.inl (Γ.2.1 0, 463, .inl fun _ => 0)) := (hne21 _ (by omega)).trans gE5_6_7_8_9_10_11_12_13_14_15_16_17_18_19_20
  have gE7_8_9_10_11_12_13_14_15_16_17_18_19_20_21 : E21 (n + 3) = (.inl (Γ.2.1 0, 24, .inl fun _ => 0)) := (hne21 _ (by omega)).trans gE7_8_9_10_11_12_13_14_15_16_17_18_19_20
  have gE9_10_11_12_13_14_15_16_17_18_19_20_21 : E21 (n + 4) = (.inl (Γ.2.1 0, 24, .inl fun _ => 0)) := (hne21 _ (by omega)).trans gE9_10_11_12_13_14_15_16_17_18_19_20
  have gE11_12_13_14_15_16_17_18_19_20_21 : E21 (n + 5) = (.inl (Γ.2.1 0, 24, .inl fun _ => 0)) := (hne21 _ (by omega)).trans gE11_12_13_14_15_16_17_18_19_20
  have gE13_14_15_16_17_18_19_20_21 : E21 (n + 6) = (.inl (Γ.2.1 0, 24, .inl fun _ => 0)) := (hne21 _ (by omega)).trans gE13_14_15_16_17_18_19_20
  have gE15_16_17_18_19_20_21 : E21 (n + 7) = (.inl (Γ.2.1 0, 24, .inl fun _ => 0)) := (hne21 _ (by omega)).trans gE15_16_17_18_19_20
  have gE17_18_19_20_21 : E21 (n + 8) = (.inl (Γ.2.1 0, 200, .inl fun _ => 0)) := (hne21 _ (by omega)).trans gE17_18_19_20
  have hfrE21 : ∀ j, j < n → j ≠ k0 → E21 j = E j := fun j hj hk => (hne21 j (by omega)).trans (hfrE20 j hj hk)
  refine lv_aload_n hx hb dX8_init_103 rfl (lv_at hl 0 rfl) ?_
  refine t_get (ci := 8) (k := k0) (j := 0) (v := .ref q1) hx hb hts hown hG (by decide) (by omega) fa_0_1_3_5_7_9_11_13_15_17 gE18_19_20_21 (by decide) (ftX8_ok _ (lookup_mem ftX8_7)).2.2 rfl dX8_init_104 ?_
  refine lv_iconst hx hb dX8_init_107 (v := 4) (by decide +kernel) ?_
  refine lv_iconst hx hb dX8_init_108 (v := 5) (by decide +kernel) ?_
  refine t_iast (k := n) (j := 4) hx hb hG hS (by omega) ga1_3_5_7_9_11_13_15_17 gE21 (by rw [vp_in_iff]; decide +kernel) (by decide +kernel) dX8_init_109 (fun E22 H22 locs22 hne22 gE22 hG hS => ?_)
  have gE18_19_20_21_22 : E22 k0 = (.inr (8, [.ref q1, .ref q3, .ref q5, .int 0, .int 0, .ref q7, .ref q9, .ref q11, .ref q13, .ref q15, .int 0, .ref q17, .int 0, .int 0])) := (hne22 _ (by omega)).trans gE18_19_20_21
  have gE3_4_5_6_7_8_9_10_11_12_13_14_15_16_17_18_19_20_21_22 : E22 (n + 1) = (.inl (Γ.2.1 0, 1852, .inl fun _ => 0)) := (hne22 _ (by omega)).trans gE3_4_5_6_7_8_9_10_11_12_13_14_15_16_17_18_19_20_21
  have gE5_6_7_8_9_10_11_12_13_14_15_16_17_18_19_20_21_22 : E22 (n + 2) = (.inl (Γ.2.1 0, 463, .inl fun _ => 0)) := (hne22 _ (by omega)).trans gE5_6_7_8_9_10_11_12_13_14_15_16_17_18_19_20_21
  have gE7_8_9_10_11_12_13_14_15_16_17_18_19_20_21_22 : E22 (n + 3) = (.inl (Γ.2.1 0, 24, .inl fun _ => 0)) := (hne22 _ (by omega)).trans gE7_8_9_10_11_12_13_14_15_16_17_18_19_20_21
  have gE9_10_11_12_13_14_15_16_17_18_19_20_21_22 : E22 (n + 4) = (.inl (Γ.2.1 0, 24, .inl fun _ => 0)) := (hne22 _ (by omega)).trans gE9_10_11_12_13_14_15_16_17_18_19_20_21
  have gE11_12_13_14_15_16_17_18_19_20_21_22 : E22 (n + 5) = (.inl (Γ.2.1 0, 24, .inl fun _ => 0)) := (hne22 _ (by omega)).trans gE11_12_13_14_15_16_17_18_19_20_21
  have gE13_14_15_16_17_18_19_20_21_22 : E22 (n + 6) = (.inl (Γ.2.1 0, 24, .inl fun _ => 0)) := (hne22 _ (by omega)).trans gE13_14_15_16_17_18_19_20_21
  have gE15_16_17_18_19_20_21_22 : E22 (n + 7) = (.inl (Γ.2.1 0, 24, .inl fun _ => 0)) := (hne22 _ (by omega)).trans gE15_16_17_18_19_20_21
  have gE17_18_19_20_21_22 : E22 (n + 8) = (.inl (Γ.2.1 0, 200, .inl fun _ => 0)) := (hne22 _ (by omega)).trans gE17_18_19_20_21
  have hfrE22 : ∀ j, j < n → j ≠ k0 → E22 j = E j := fun j hj hk => (hne22 j (by omega)).trans (hfrE21 j hj hk)
  refine W.widen (k := 9) (n := 3098) (by decide) (by decide) ?_
  rw [← ga1_3_5_7_9_11_13_15_17, ← ga3_5_7_9_11_13_15_17, ← ga5_7_9_11_13_15_17, ← ga7_9_11_13_15_17, ← ga9_11_13_15_17, ← ga11_13_15_17, ← ga13_15_17, ← ga15_17, ← ga17] at gE18_19_20_21_22
  exact W.vret hx hb hr (fun t ht hW => ⟨⟨(a17, E22), rfl, ⟨hfr17, hfrE22, ⟨gE18_19_20_21_22, gE22, gE3_4_5_6_7_8_9_10_11_12_13_14_15_16_17_18_19_20_21_22, gE5_6_7_8_9_10_11_12_13_14_15_16_17_18_19_20_21_22, gE7_8_9_10_11_12_13_14_15_16_17_18_19_20_21_22, gE9_10_11_12_13_14_15_16_17_18_19_20_21_22, gE11_12_13_14_15_16_17_18_19_20_21_22, gE13_14_15_16_17_18_19_20_21_22, gE15_16_17_18_19_20_21_22, gE17_18_19_20_21_22⟩⟩, by show GW Γ _ _ _ t t.heap; rw [ht]; exact gw_moved hW.alike hG⟩, hS.F ht⟩) hS.2.2 dX8_init_110
set_option maxHeartbeats 4000000 in
set_option maxRecDepth 100000 in
theorem cX2 (l : Launch) : CC l yX2_init cX2_init 1 rm_2 2 16 2 2 fs0_2 sh_2 := by
  intro Γ a E n k0 hk0 he0
  obtain ⟨r0, fa_0⟩ : ∃ r0, a k0 = r0 := ⟨_, rfl⟩
  rw [fa_0]
  refine Met.ofW (cc := cX2_init) (maxL := 1) (ret := none) (by decide) rfl ?_
  intro p e s m args below meth c s₁ B hml hv
  obtain ⟨rfl, hbase, hN, hG⟩ := hv
  have hx := B.exec
  have hb := B.bytes
  have hr := B.returns
  have hts0 := atoms_spec (ws := wsy yX2_init cX2_init 1 none) B.pre
  have hts : ∀ w ∈ lwA, w.before ([.ref r0] : List Value).toArray s = true := fun w hw => hts0 w (List.mem_cons_of_mem _ hw)
  have hown : s.vm.findClass RX2 = some m.cls := findClass_of_methodNamed B.named
  have hin : meth.name = "<init>" := (name_of_methodNamed B.named B.method).1
  have hS : va_S (gA Γ) s.heap s.heap [] := va_S.rf
  have hl := lv_entry ([.ref r0]) (n := 1) (Nat.le_of_ble_eq_true rfl)
  rw [lg_entry_eq]
  generalize (lg_sl ([.ref r0]) ++ List.replicate (1 - (lg_sl ([.ref r0])).length) Slot.unset).toArray = ls at hl ⊢
  have hl : lv_has ls 1 [(0, .ref r0)] := hl
  have fE_0 := he0
  have hfr0 : ∀ j, j < n → a j = a j := fun _ _ => rfl
  have hfrE0 : ∀ j, j < n → j ≠ k0 → E j = E j := fun _ _ _ => rfl
  refine lv_aload_n hx hb dX2_init_0 rfl (lv_at hl 0 rfl) ?_
  refine W.objInit hx hb hown (hts _ wo_2) (hts _ wo_i) (hts _ wo_c) rfl (by rw [hml]; exact hl.1) rfl dX2_init_1 (Nat.le_of_ble_eq_true rfl) (Nat.le_of_ble_eq_true rfl) ?_
  refine W.eq (g2 := F0 m 4 ls []) rfl ?_
  refine lv_aload_n hx hb dX2_init_4 rfl (lv_at hl 0 rfl) ?_
  refine lv_bipush hx hb dX2_init_5 (v := 10) (by decide +kernel) ?_
  refine t_newa hx hb hts hG hS hbase .int .int 0 rfl rfl wa_int (N' := 10) (a0 := (10, .inl fun _ => 0)) (fun _ => rfl) (by decide) (by decide +kernel) (Nat.le_of_ble_eq_true rfl) (n1 := n + 1) (by omega) (c1 := 1) (s1 := 10) rfl rfl (Nat.le_of_ble_eq_true rfl) (Nat.le_of_ble_eq_true rfl) dX2_init_7 (fun q1 a1 E1 H1 hag1 ga1 gE1 hG hS => ?_)
  have fa_0_1 : a1 k0 = r0 := (hag1 _ (by omega)).1.trans fa_0
  have fE_0_1 : E1 k0 = (.inr (2, fs0_2)) := (hag1 _ (by omega)).2.trans fE_0
  have hfr1 : ∀ j, j < n → a1 j = a j := fun j hj => (hag1 j (by omega)).1.trans (hfr0 j hj)
  have hfrE1 : ∀ j, j < n → j ≠ k0 → E1 j = E j := fun j hj hne => (hag1 j (by omega)).2.trans (hfrE0 j hj hne)
  refine t_putF (ci := 2) (k := k0) (j := 0) (fs1 := [.ref q1, .null, .int 0, .int 0, .int 0, .int 0]) hx hb hts hown hG hS (by decide) (by omega) fa_0_1 fE_0_1 (by decide) (ftX2_ok _ (lookup_mem ftX2_9)).2.2 rfl hin rfl rfl rfl (Nat.le_of_ble_eq_true rfl) rfl dX2_init_9 (fun E2 H2 locs2 hne2 gE2 hG hS => ?_)
  have gE1_2 : E2 n = (.inl (Γ.2.1 0, 10, .inl fun _ => 0)) := (hne2 _ (by omega)).trans gE1
  have hfrE2 : ∀ j, j < n → j ≠ k0 → E2 j = E j := fun j hj hk => (hne2 j hk).trans (hfrE1 j hj hk)
  refine lv_aload_n hx hb dX2_init_12 rfl (lv_at hl 0 rfl) ?_
  refine t_new hx hb hts hown hG hS hbase (ci := 0) (by decide) wq_X2_15 df_0 (n1 := n + 2) (by omega) (c1 := 2) (s1 := 16) rfl rfl (Nat.le_of_ble_eq_true rfl) (Nat.le_of_ble_eq_true rfl) dX2_init_13 (fun q3 a3 E3 H3 hag3 ga3 gE3 hG hS => ?_)
  have fa_0_1_3 : a3 k0 = r0 := (hag3 _ (by omega)).1.trans fa_0_1
  have gE2_3 : E3 k0 = (.inr (2, [.ref q1, .null, .int 0, .int 0, .int 0, .int 0])) := (hag3 _ (by omega)).2.trans gE2
  have ga1_3 : a3 n = q1 := (hag3 _ (by omega)).1.trans ga1
  have gE1_2_3 : E3 n = (.inl (Γ.2.1 0, 10, .inl fun _ => 0)) := (hag3 _ (by omega)).2.trans gE1_2
  have hfr3 : ∀ j, j < n → a3 j = a j := fun j hj => (hag3 j (by omega)).1.trans (hfr1 j hj)
  have hfrE3 : ∀ j, j < n → j ≠ k0 → E3 j = E j := fun j hj hne => (hag3 j (by omega)).2.trans (hfrE2 j hj hne)
  refine lv_dup hx hb dX2_init_16 rfl ?_
  refine t_clN "SpiralWords" (cX0 l) hx hb hml hl.1 hts hown hG hS hbase hN rfl rfl rfl hN.2.2.1 wm_0 wi_0 wk_0 (by decide +kernel) ⟨Nat.le_of_ble_eq_true rfl, Nat.le_of_ble_eq_true rfl⟩ (by omega) ga3 gE3 (Nat.le_of_ble_eq_true rfl) dX2_init_17 (n1 := n + 2) (by omega) (c1 := 2) (s1 := 16) rfl rfl (Nat.le_of_ble_eq_true rfl) (Nat.le_of_ble_eq_true rfl) (fun a4 E4 H4 locs4 hA4 hE4 hsh4 hG hS => ?_)
  have fa_0_1_3_4 : a4 k0 = r0 := (hA4 _ (by omega)).trans fa_0_1_3
  have gE2_3_4 : E4 k0 = (.inr (2, [.ref q1, .null, .int 0, .int 0, .int 0, .int 0])) := (hE4 _ (by omega) (by omega)).trans gE2_3
  have ga1_3_4 : a4 n = q1 := (hA4 _ (by omega)).trans ga1_3
  have gE1_2_3_4 : E4 n = (.inl (Γ.2.1 0, 10, .inl fun _ => 0)) := (hE4 _ (by omega) (by omega)).trans gE1_2_3
  have ga3_4 : a4 (n + 1) = q3 := (hA4 _ (by omega)).trans ga3
  have hfr4 : ∀ j, j < n → a4 j = a j := fun j hj => (hA4 j (by omega)).trans (hfr3 j hj)
  have hfrE4 : ∀ j, j < n → j ≠ k0 → E4 j = E j := fun j hj hne => (hE4 j (by omega) (by omega)).trans (hfrE3 j hj hne)
  refine t_putF (ci := 2) (k := k0) (j := 1) (fs1 := [.ref q1, .ref q3, .int 0, .int 0, .int 0, .int 0]) hx hb hts hown hG hS (by decide) (by omega) fa_0_1_3_4 gE2_3_4 (by decide) (ftX2_ok _ (lookup_mem ftX2_18)).2.2 rfl hin rfl rfl rfl (Nat.le_of_ble_eq_true rfl) rfl dX2_init_20 (fun E5 H5 locs5 hne5 gE5 hG hS => ?_)
  have gE1_2_3_4_5 : E5 n = (.inl (Γ.2.1 0, 10, .inl fun _ => 0)) := (hne5 _ (by omega)).trans gE1_2_3_4
  have hsh4_5 : sh_0 Γ a4 E5 (n + 1) (n + 2) := sk_0 ⟨rfl, hne5 _ (by omega)⟩ (fun j h1 h2 => ⟨rfl, hne5 j (by omega)⟩) hsh4
  have hfrE5 : ∀ j, j < n → j ≠ k0 → E5 j = E j := fun j hj hk => (hne5 j hk).trans (hfrE4 j hj hk)
  refine W.widen (k := 2) (n := 16) (by decide) (by decide) ?_
  rw [← ga1_3_4, ← ga3_4] at gE5
  exact W.vret hx hb hr (fun t ht hW => ⟨⟨(a4, E5), rfl, ⟨hfr4, hfrE5, ⟨gE5, gE1_2_3_4_5, hsh4_5⟩⟩, by show GW Γ _ _ _ t t.heap; rw [ht]; exact gw_moved hW.alike hG⟩, hS.F ht⟩) hS.2.2 dX2_init_23
set_option maxHeartbeats 4000000 in
set_option maxRecDepth 100000 in
theorem cX4 (l : Launch) : CC l yX4_init cX4_init 1 rm_4 4 61 4 4 fs0_4 sh_4 := by
  intro Γ a E n k0 hk0 he0
  obtain ⟨r0, fa_0⟩ : ∃ r0, a k0 = r0 := ⟨_, rfl⟩
  rw [fa_0]
  refine Met.ofW (cc := cX4_init) (maxL := 1) (ret := none) (by decide) rfl ?_
  intro p e s m args below meth c s₁ B hml hv
  obtain ⟨rfl, hbase, hN, hG⟩ := hv
  have hx := B.exec
  have hb := B.bytes
  have hr := B.returns
  have hts0 := atoms_spec (ws := wsy yX4_init cX4_init 1 none) B.pre
  have hts : ∀ w ∈ lwA, w.before ([.ref r0] : List Value).toArray s = true := fun w hw => hts0 w (List.mem_cons_of_mem _ hw)
  have hown : s.vm.findClass RX4 = some m.cls := findClass_of_methodNamed B.named
  have hin : meth.name = "<init>" := (name_of_methodNamed B.named B.method).1
  have hS : va_S (gA Γ) s.heap s.heap [] := va_S.rf
  have hl := lv_entry ([.ref r0]) (n := 1) (Nat.le_of_ble_eq_true rfl)
  rw [lg_entry_eq]
  generalize (lg_sl ([.ref r0]) ++ List.replicate (1 - (lg_sl ([.ref r0])).length) Slot.unset).toArray = ls at hl ⊢
  have hl : lv_has ls 1 [(0, .ref r0)] := hl
  have fE_0 := he0
  have hfr0 : ∀ j, j < n → a j = a j := fun _ _ => rfl
  have hfrE0 : ∀ j, j < n → j ≠ k0 → E j = E j := fun _ _ _ => rfl
  refine lv_aload_n hx hb dX4_init_0 rfl (lv_at hl 0 rfl) ?_
  refine W.objInit hx hb hown (hts _ wo_4) (hts _ wo_i) (hts _ wo_c) rfl (by rw [hml]; exact hl.1) rfl dX4_init_1 (Nat.le_of_ble_eq_true rfl) (Nat.le_of_ble_eq_true rfl) ?_
  refine W.eq (g2 := F0 m 4 ls []) rfl ?_
  refine lv_aload_n hx hb dX4_init_4 rfl (lv_at hl 0 rfl) ?_
  refine lv_bipush hx hb dX4_init_5 (v := 24) (by decide +kernel) ?_
  refine t_newa hx hb hts hG hS hbase .int .int 0 rfl rfl wa_int (N' := 24) (a0 := (24, .inl fun _ => 0)) (fun _ => rfl) (by decide) (by decide +kernel) (Nat.le_of_ble_eq_true rfl) (n1 := n + 1) (by omega) (c1 := 1) (s1 := 24) rfl rfl (Nat.le_of_ble_eq_true rfl) (Nat.le_of_ble_eq_true rfl) dX4_init_7 (fun q1 a1 E1 H1 hag1 ga1 gE1 hG hS => ?_)
  have fa_0_1 : a1 k0 = r0 := (hag1 _ (by omega)).1.trans fa_0
  have fE_0_1 : E1 k0 = (.inr (4, fs0_4)) := (hag1 _ (by omega)).2.trans fE_0
  have hfr1 : ∀ j, j < n → a1 j = a j := fun j hj => (hag1 j (by omega)).1.trans (hfr0 j hj)
  have hfrE1 : ∀ j, j < n → j ≠ k0 → E1 j = E j := fun j hj hne => (hag1 j (by omega)).2.trans (hfrE0 j hj hne)
  refine t_putF (ci := 4) (k := k0) (j := 0) (fs1 := [.ref q1, .null, .null, .null, .int 0, .int 0]) hx hb hts hown hG hS (by decide) (by omega) fa_0_1 fE_0_1 (by decide) (ftX4_ok _ (lookup_mem ftX4_9)).2.2 rfl hin rfl rfl rfl (Nat.le_of_ble_eq_true rfl) rfl dX4_init_9 (fun E2 H2 locs2 hne2 gE2 hG hS => ?_)
  have gE1_2 : E2 n = (.inl (Γ.2.1 0, 24, .inl fun _ => 0)) := (hne2 _ (by omega)).trans gE1
  have hfrE2 : ∀ j, j < n → j ≠ k0 → E2 j = E j := fun j hj hk => (hne2 j hk).trans (hfrE1 j hj hk)
  refine lv_aload_n hx hb dX4_init_12 rfl (lv_at hl 0 rfl) ?_
  refine lv_bipush hx hb dX4_init_13 (v := 24) (by decide +kernel) ?_
  refine t_newa hx hb hts hG hS hbase .int .int 0 rfl rfl wa_int (N' := 24) (a0 := (24, .inl fun _ => 0)) (fun _ => rfl) (by decide) (by decide +kernel) (Nat.le_of_ble_eq_true rfl) (n1 := n + 2) (by omega) (c1 := 2) (s1 := 48) rfl rfl (Nat.le_of_ble_eq_true rfl) (Nat.le_of_ble_eq_true rfl) dX4_init_15 (fun q3 a3 E3 H3 hag3 ga3 gE3 hG hS => ?_)
  have fa_0_1_3 : a3 k0 = r0 := (hag3 _ (by omega)).1.trans fa_0_1
  have gE2_3 : E3 k0 = (.inr (4, [.ref q1, .null, .null, .null, .int 0, .int 0])) := (hag3 _ (by omega)).2.trans gE2
  have ga1_3 : a3 n = q1 := (hag3 _ (by omega)).1.trans ga1
  have gE1_2_3 : E3 n = (.inl (Γ.2.1 0, 24, .inl fun _ => 0)) := (hag3 _ (by omega)).2.trans gE1_2
  have hfr3 : ∀ j, j < n → a3 j = a j := fun j hj => (hag3 j (by omega)).1.trans (hfr1 j hj)
  have hfrE3 : ∀ j, j < n → j ≠ k0 → E3 j = E j := fun j hj hne => (hag3 j (by omega)).2.trans (hfrE2 j hj hne)
  refine t_putF (ci := 4) (k := k0) (j := 1) (fs1 := [.ref q1, .ref q3, .null, .null, .int 0, .int 0]) hx hb hts hown hG hS (by decide) (by omega) fa_0_1_3 gE2_3 (by decide) (ftX4_ok _ (lookup_mem ftX4_15)).2.2 rfl hin rfl rfl rfl (Nat.le_of_ble_eq_true rfl) rfl dX4_init_17 (fun E4 H4 locs4 hne4 gE4 hG hS => ?_)
  have gE1_2_3_4 : E4 n = (.inl (Γ.2.1 0, 24, .inl fun _ => 0)) := (hne4 _ (by omega)).trans gE1_2_3
  have gE3_4 : E4 (n + 1) = (.inl (Γ.2.1 0, 24, .inl fun _ => 0)) := (hne4 _ (by omega)).trans gE3
  have hfrE4 : ∀ j, j < n → j ≠ k0 → E4 j = E j := fun j hj hk => (hne4 j hk).trans (hfrE3 j hj hk)
  refine lv_aload_n hx hb dX4_init_20 rfl (lv_at hl 0 rfl) ?_
  refine t_new hx hb hts hown hG hS hbase (ci := 0) (by decide) wq_X4_18 df_0 (n1 := n + 3) (by omega) (c1 := 3) (s1 := 54) rfl rfl (Nat.le_of_ble_eq_true rfl) (Nat.le_of_ble_eq_true rfl) dX4_init_21 (fun q5 a5 E5 H5 hag5 ga5 gE5 hG hS => ?_)
  have fa_0_1_3_5 : a5 k0 = r0 := (hag5 _ (by omega)).1.trans fa_0_1_3
  have gE4_5 : E5 k0 = (.inr (4, [.ref q1, .ref q3, .null, .null, .int 0, .int 0])) := (hag5 _ (by omega)).2.trans gE4
  have ga1_3_5 : a5 n = q1 := (hag5 _ (by omega)).1.trans ga1_3
  have gE1_2_3_4_5 : E5 n = (.inl (Γ.2.1 0, 24, .inl fun _ => 0)) := (hag5 _ (by omega)).2.trans gE1_2_3_4
  have ga3_5 : a5 (n + 1) = q3 := (hag5 _ (by omega)).1.trans ga3
  have gE3_4_5 : E5 (n + 1) = (.inl (Γ.2.1 0, 24, .inl fun _ => 0)) := (hag5 _ (by omega)).2.trans gE3_4
  have hfr5 : ∀ j, j < n → a5 j = a j := fun j hj => (hag5 j (by omega)).1.trans (hfr3 j hj)
  have hfrE5 : ∀ j, j < n → j ≠ k0 → E5 j = E j := fun j hj hne => (hag5 j (by omega)).2.trans (hfrE4 j hj hne)
  refine lv_dup hx hb dX4_init_24 rfl ?_
  refine t_clN "SpiralWords" (cX0 l) hx hb hml hl.1 hts hown hG hS hbase hN rfl rfl rfl hN.2.2.2.1 wm_0 wi_0 wk_0 (by decide +kernel) ⟨Nat.le_of_ble_eq_true rfl, Nat.le_of_ble_eq_true rfl⟩ (by omega) ga5 gE5 (Nat.le_of_ble_eq_true rfl) dX4_init_25 (n1 := n + 3) (by omega) (c1 := 3) (s1 := 54) rfl rfl (Nat.le_of_ble_eq_true rfl) (Nat.le_of_ble_eq_true rfl) (fun a6 E6 H6 locs6 hA6 hE6 hsh6 hG hS => ?_)
  have fa_0_1_3_5_6 : a6 k0 = r0 := (hA6 _ (by omega)).trans fa_0_1_3_5
  have gE4_5_6 : E6 k0 = (.inr (4, [.ref q1, .ref q3, .null, .null, .int 0, .int 0])) := (hE6 _ (by omega) (by omega)).trans gE4_5
  have ga1_3_5_6 : a6 n = q1 := (hA6 _ (by omega)).trans ga1_3_5
  have gE1_2_3_4_5_6 : E6 n = (.inl (Γ.2.1 0, 24, .inl fun _ => 0)) := (hE6 _ (by omega) (by omega)).trans gE1_2_3_4_5
  have ga3_5_6 : a6 (n + 1) = q3 := (hA6 _ (by omega)).trans ga3_5
  have gE3_4_5_6 : E6 (n + 1) = (.inl (Γ.2.1 0, 24, .inl fun _ => 0)) := (hE6 _ (by omega) (by omega)).trans gE3_4_5
  have ga5_6 : a6 (n + 2) = q5 := (hA6 _ (by omega)).trans ga5
  have hfr6 : ∀ j, j < n → a6 j = a j := fun j hj => (hA6 j (by omega)).trans (hfr5 j hj)
  have hfrE6 : ∀ j, j < n → j ≠ k0 → E6 j = E j := fun j hj hne => (hE6 j (by omega) (by omega)).trans (hfrE5 j hj hne)
  refine t_putF (ci := 4) (k := k0) (j := 2) (fs1 := [.ref q1, .ref q3, .ref q5, .null, .int 0, .int 0]) hx hb hts hown hG hS (by decide) (by omega) fa_0_1_3_5_6 gE4_5_6 (by decide) (ftX4_ok _ (lookup_mem ftX4_21)).2.2 rfl hin rfl rfl rfl (Nat.le_of_ble_eq_true rfl) rfl dX4_init_28 (fun E7 H7 locs7 hne7 gE7 hG hS => ?_)
  have gE1_2_3_4_5_6_7 : E7 n = (.inl (Γ.2.1 0, 24, .inl fun _ => 0)) := (hne7 _ (by omega)).trans gE1_2_3_4_5_6
  have gE3_4_5_6_7 : E7 (n + 1) = (.inl (Γ.2.1 0, 24, .inl fun _ => 0)) := (hne7 _ (by omega)).trans gE3_4_5_6
  have hsh6_7 : sh_0 Γ a6 E7 (n + 2) (n + 3) := sk_0 ⟨rfl, hne7 _ (by omega)⟩ (fun j h1 h2 => ⟨rfl, hne7 j (by omega)⟩) hsh6
  have hfrE7 : ∀ j, j < n → j ≠ k0 → E7 j = E j := fun j hj hk => (hne7 j hk).trans (hfrE6 j hj hk)
  refine lv_aload_n hx hb dX4_init_31 rfl (lv_at hl 0 rfl) ?_
  refine t_new hx hb hts hown hG hS hbase (ci := 5) (by decide) wq_X4_25 df_5 (n1 := n + 4) (by omega) (c1 := 4) (s1 := 61) rfl rfl (Nat.le_of_ble_eq_true rfl) (Nat.le_of_ble_eq_true rfl) dX4_init_32 (fun q8 a8 E8 H8 hag8 ga8 gE8 hG hS => ?_)
  have fa_0_1_3_5_6_8 : a8 k0 = r0 := (hag8 _ (by omega)).1.trans fa_0_1_3_5_6
  have gE7_8 : E8 k0 = (.inr (4, [.ref q1, .ref q3, .ref q5, .null, .int 0, .int 0])) := (hag8 _ (by omega)).2.trans gE7
  have ga1_3_5_6_8 : a8 n = q1 := (hag8 _ (by omega)).1.trans ga1_3_5_6
  have gE1_2_3_4_5_6_7_8 : E8 n = (.inl (Γ.2.1 0, 24, .inl fun _ => 0)) := (hag8 _ (by omega)).2.trans gE1_2_3_4_5_6_7
  have ga3_5_6_8 : a8 (n + 1) = q3 := (hag8 _ (by omega)).1.trans ga3_5_6
  have gE3_4_5_6_7_8 : E8 (n + 1) = (.inl (Γ.2.1 0, 24, .inl fun _ => 0)) := (hag8 _ (by omega)).2.trans gE3_4_5_6_7
  have ga5_6_8 : a8 (n + 2) = q5 := (hag8 _ (by omega)).1.trans ga5_6
  have hsh6_7_8 : sh_0 Γ a8 E8 (n + 2) (n + 3) := sk_0 (hag8 _ (by omega)) (fun j h1 h2 => hag8 j (by omega)) hsh6_7
  have hfr8 : ∀ j, j < n → a8 j = a j := fun j hj => (hag8 j (by omega)).1.trans (hfr6 j hj)
  have hfrE8 : ∀ j, j < n → j ≠ k0 → E8 j = E j := fun j hj hne => (hag8 j (by omega)).2.trans (hfrE7 j hj hne)
  refine lv_dup hx hb dX4_init_35 rfl ?_
  refine t_clN "SpiralWords" (cX5 l) hx hb hml hl.1 hts hown hG hS hbase hN rfl rfl rfl hN.2.2.2.2 wm_5 wi_5 wk_5 (by decide +kernel) ⟨Nat.le_of_ble_eq_true rfl, Nat.le_of_ble_eq_true rfl⟩ (by omega) ga8 gE8 (Nat.le_of_ble_eq_true rfl) dX4_init_36 (n1 := n + 4) (by omega) (c1 := 4) (s1 := 61) rfl rfl (Nat.le_of_ble_eq_true rfl) (Nat.le_of_ble_eq_true rfl) (fun a9 E9 H9 locs9 hA9 hE9 hsh9 hG hS => ?_)
  have fa_0_1_3_5_6_8_9 : a9 k0 = r0 := (hA9 _ (by omega)).trans fa_0_1_3_5_6_8
  have gE7_8_9 : E9 k0 = (.inr (4, [.ref q1, .ref q3, .ref q5, .null, .int 0, .int 0])) := (hE9 _ (by omega) (by omega)).trans gE7_8
  have ga1_3_5_6_8_9 : a9 n = q1 := (hA9 _ (by omega)).trans ga1_3_5_6_8
  have gE1_2_3_4_5_6_7_8_9 : E9 n = (.inl (Γ.2.1 0, 24, .inl fun _ => 0)) := (hE9 _ (by omega) (by omega)).trans gE1_2_3_4_5_6_7_8
  have ga3_5_6_8_9 : a9 (n + 1) = q3 := (hA9 _ (by omega)).trans ga3_5_6_8
  have gE3_4_5_6_7_8_9 : E9 (n + 1) = (.inl (Γ.2.1 0, 24, .inl fun _ => 0)) := (hE9 _ (by omega) (by omega)).trans gE3_4_5_6_7_8
  have ga8_9 : a9 (n + 3) = q8 := (hA9 _ (by omega)).trans ga8
  have ga5_6_8_9 : a9 (n + 2) = q5 := (hA9 _ (by omega)).trans ga5_6_8
  have hsh6_7_8_9 : sh_0 Γ a9 E9 (n + 2) (n + 3) := sk_0 ⟨hA9 _ (by omega), hE9 _ (by omega) (by omega)⟩ (fun j h1 h2 => ⟨hA9 j (by omega), hE9 j (by omega) (by omega)⟩) hsh6_7_8
  have hfr9 : ∀ j, j < n → a9 j = a j := fun j hj => (hA9 j (by omega)).trans (hfr8 j hj)
  have hfrE9 : ∀ j, j < n → j ≠ k0 → E9 j = E j := fun j hj hne => (hE9 j (by omega) (by omega)).trans (hfrE8 j hj hne)
  refine t_putF (ci := 4) (k := k0) (j := 3) (fs1 := [.ref q1, .ref q3, .ref q5, .ref q8, .int 0, .int 0]) hx hb hts hown hG hS (by decide) (by omega) fa_0_1_3_5_6_8_9 gE7_8_9 (by decide) (ftX4_ok _ (lookup_mem ftX4_28)).2.2 rfl hin rfl rfl rfl (Nat.le_of_ble_eq_true rfl) rfl dX4_init_39 (fun E10 H10 locs10 hne10 gE10 hG hS => ?_)
  have gE1_2_3_4_5_6_7_8_9_10 : E10 n = (.inl (Γ.2.1 0, 24, .inl fun _ => 0)) := (hne10 _ (by omega)).trans gE1_2_3_4_5_6_7_8_9
  have gE3_4_5_6_7_8_9_10 : E10 (n + 1) = (.inl (Γ.2.1 0, 24, .inl fun _ => 0)) := (hne10 _ (by omega)).trans gE3_4_5_6_7_8_9
  have hsh6_7_8_9_10 : sh_0 Γ a9 E10 (n + 2) (n + 3) := sk_0 ⟨rfl, hne10 _ (by omega)⟩ (fun j h1 h2 => ⟨rfl, hne10 j (by omega)⟩) hsh6_7_8_9
  have hsh9_10 : sh_5 Γ a9 E10 (n + 3) (n + 4) := sk_5 ⟨rfl, hne10 _ (by omega)⟩ (fun j h1 h2 => ⟨rfl, hne10 j (by omega)⟩) hsh9
  have hfrE10 : ∀ j, j < n → j ≠ k0 → E10 j = E j := fun j hj hk => (hne10 j hk).trans (hfrE9 j hj hk)
  refine W.widen (k := 4) (n := 61) (by decide) (by decide) ?_
  rw [← ga1_3_5_6_8_9, ← ga3_5_6_8_9, ← ga5_6_8_9, ← ga8_9] at gE10
  exact W.vret hx hb hr (fun t ht hW => ⟨⟨(a9, E10), rfl, ⟨hfr9, hfrE10, ⟨gE10, gE1_2_3_4_5_6_7_8_9_10, gE3_4_5_6_7_8_9_10, hsh6_7_8_9_10, hsh9_10⟩⟩, by show GW Γ _ _ _ t t.heap; rw [ht]; exact gw_moved hW.alike hG⟩, hS.F ht⟩) hS.2.2 dX4_init_42
def li_1 (Γ : Ga) (s : State) (H0 : Heap) (n k0 r0 rA : Nat) (a : Nat → Nat) (E : Nat → va_E) (i : Nat) (a1 : Nat → Nat) (E1 : Nat → va_E) (H1 : Heap) (locs1 : List Loc) (ls1 : Array Slot) : Prop :=
  GW Γ a1 E1 (n + 1 + 3 * i) s H1 ∧ va_S (gA Γ) H0 H1 locs1 ∧ lv_has ls1 2 [(1, .int (Int32.ofInt (i : Int))), (0, .ref r0)] ∧ a1 k0 = r0 ∧ a1 n = rA ∧ (∀ j, j < n → a1 j = a j) ∧ (∀ j, j < n → j ≠ k0 → E1 j = E j) ∧ E1 k0 = .inr (1, [.ref rA, .int 0, .int 0, .int 0, .int 0, .int 0, .int 0, .int 0]) ∧
    ∃ f : Nat → Option Nat, E1 n = .inl (Γ.2.1 3, 24, .inr (.inr (.inr (.inr f)))) ∧ (∀ j, j < i → f j = some (a1 (n + 1 + 3 * j))) ∧ ∀ j, j < i → sh_2 Γ a1 E1 (n + 1 + 3 * j) (n + 2 + 3 * j)
set_option maxHeartbeats 4000000 in
set_option maxRecDepth 100000 in
theorem lp_1 {p : Program} {l : Launch} {e : Env} {s : State} {m : MethodId} {args : Array Value} {below : List Frame} {meth : Method} {c : Code} {H0 : Heap} {Q : State → Prop} {Γ : Ga} {a : Nat → Nat} {E : Nat → va_E} {n k0 r0 rA : Nat}
    (hx : p.tables.exec = Jvm.exec) (hb : c.code = cX1_init) (hml : c.maxLocals = 2) (hown : s.vm.findClass RX1 = some m.cls) (hts : ∀ w ∈ lwA, w.before args s = true) (hbase : Γ.2.2.2 ≤ H0.size) (hN : GN s) (hk0 : k0 < n)
    (kk : ∀ (a1 : Nat → Nat) (E1 : Nat → va_E) (H1 : Heap) (locs1 : List Loc) (ls1 : Array Slot), li_1 Γ s H0 n k0 r0 rA a E 24 a1 E1 H1 locs1 ls1 → W p l e rm_1 s m args below meth c H1 locs1 (1 + 3 * 24) (24 + 22 * 24) Q (F0 m 40 ls1 [])) :
    ∀ (d i : Nat) (a1 : Nat → Nat) (E1 : Nat → va_E) (H1 : Heap) (locs1 : List Loc) (ls1 : Array Slot), i + d = 24 → li_1 Γ s H0 n k0 r0 rA a E i a1 E1 H1 locs1 ls1 → W p l e rm_1 s m args below meth c H1 locs1 (1 + 3 * i) (24 + 22 * i) Q (F0 m 15 ls1 []) := by
  intro d
  induction d with
  | zero =>
    intro i a1 E1 H1 locs1 ls1 hi I
    obtain rfl : i = 24 := by omega
    have hl := I.2.2.1
    refine lv_iload_n hx hb dX1_init_15 rfl (lv_at hl 0 rfl) ?_
    refine lv_bipush hx hb dX1_init_16 (v := Int32.ofInt 24) (by decide +kernel) ?_
    refine lv_icmp_ge hx hb dX1_init_18 (tgt := 40) (by decide) (fun _ => kk _ _ _ _ _ I) (fun q => absurd (by decide +kernel) q)
  | succ d ih =>
    intro i a1 E1 H1 locs1 ls1 hi I
    obtain ⟨hG, hS, hl, ha0, han, hfr, hfrE, hE0, f, hEn, hf, hsh0⟩ := I
    refine lv_iload_n hx hb dX1_init_15 rfl (lv_at hl 0 rfl) ?_
    refine lv_bipush hx hb dX1_init_16 (v := Int32.ofInt 24) (by decide +kernel) ?_
    refine lv_icmp_ge hx hb dX1_init_18 (tgt := 40) (by decide) (fun q => ?_) (fun _ => ?_)
    · exfalso
      have h9 := (i32_le (by unfold inR; omega) (by unfold inR; omega)).mp q
      omega
    refine lv_aload_n hx hb dX1_init_21 rfl (lv_at hl 1 rfl) ?_
    refine t_get (ci := 1) (k := k0) (j := 0) (v := .ref rA) hx hb hts hown hG (by decide) (by omega) ha0 hE0 (by decide) (ftX1_ok _ (lookup_mem ftX1_11)).2.2 rfl dX1_init_22 ?_
    refine lv_iload_n hx hb dX1_init_25 rfl (lv_at hl 0 rfl) ?_
    refine t_new (ci := 2) hx hb hts hown hG hS hbase (by decide) wq_X1_9 df_2 (n1 := n + 2 + 3 * i) (by omega) (c1 := 2 + 3 * i) (s1 := 24 + 6 + 22 * i) (by omega) (by show _ + 6 = _; omega) (by show _ ≤ 73; omega) (by show _ ≤ 552; omega) dX1_init_26 (fun q a2 E2 H2 hag ga gE hG2 hS2 => ?_)
    refine lv_dup hx hb dX1_init_29 rfl ?_
    refine t_call (cX2 l) hx hb hml hl.1 hts hown hG2 hS2 hbase hN rfl rfl rfl wl_X1_17_i wm_2 wi_2 wk_2 (by decide +kernel) ⟨Nat.le_of_ble_eq_true rfl, Nat.le_of_ble_eq_true rfl⟩ (k := n + 1 + 3 * i) (by omega) ga gE (Nat.le_of_ble_eq_true rfl) dX1_init_30 (n1 := n + 3 + 1 + 3 * i) (by omega) (c1 := 3 + 1 + 3 * i) (s1 := 24 + 22 + 22 * i) (by omega) (by omega) (by show _ ≤ 73; omega) (by show _ ≤ 552; omega) (fun a3 E3 H3 locs3 hA hE hsh hG3 hS3 => ?_)
    have hq3 : a3 (n + 1 + 3 * i) = q := (hA _ (by omega)).trans ga
    have han3 : a3 n = rA := (hA _ (by omega)).trans ((hag _ (by omega)).1.trans han)
    have hEn3 : E3 n = .inl (Γ.2.1 3, 24, .inr (.inr (.inr (.inr f)))) := (hE _ (by omega) (by omega)).trans ((hag _ (by omega)).2.trans hEn)
    refine t_astq (ci := 2) (k := n) (kv := n + 1 + 3 * i) hx hb hG3 hS3 3 (by decide) rfl (by omega) han3 hEn3 (by omega) hq3 hsh.1 (i32_in (by omega) (by omega) (by decide)) (j := i) (i32_cl (by omega) (by omega)) dX1_init_33 (fun E4 H4 locs4 hne gE4 hG4 hS4 => ?_)
    refine lv_iinc hx hb dX1_init_34 hl (k := 0) rfl (i32_add _ _) (by decide) rfl (fun ls5 hl5 => ?_)
    refine lv_goto hx hb dX1_init_37 (tgt := 15) (by decide) ?_
    have e1 : ((i + 1 : Nat) : Int) = (i : Int) + 1 := by omega
    have h9 := ih (i + 1) a3 E4 H4 locs4 ls5 (by omega) ⟨by rw [show n + 1 + 3 * (i + 1) = n + 3 + 1 + 3 * i by omega]; exact hG4, hS4, by rw [e1]; exact hl5, (hA _ (by omega)).trans ((hag _ (by omega)).1.trans ha0), han3, fun j hj => (hA j (by omega)).trans ((hag j (by omega)).1.trans (hfr j hj)), fun j hj hj0 => (hne j (by omega)).trans ((hE j (by omega) (by omega)).trans ((hag j (by omega)).2.trans (hfrE j hj hj0))), (hne _ (by omega)).trans ((hE _ (by omega) (by omega)).trans ((hag _ (by omega)).2.trans hE0)), va_up f i (some q), gE4, fun j hj => ?_, fun j hj => ?_⟩
    · rw [show 1 + 3 * (i + 1) = 3 + 1 + 3 * i by omega, show 24 + 22 * (i + 1) = 24 + 22 + 22 * i by omega] at h9
      exact h9
    · by_cases hji : j = i
      · subst hji
        rw [va_up_self, hq3]
      · rw [va_up_ne _ _ hji, hf j (by omega), (hA (n + 1 + 3 * j) (by omega)), (hag (n + 1 + 3 * j) (by omega)).1]
    · by_cases hji : j = i
      · subst hji
        exact sk_2 ⟨rfl, hne _ (by omega)⟩ (fun x h1 h2 => ⟨rfl, hne x (by omega)⟩) hsh
      · have hall : ∀ x, n < x → x < n + 1 + 3 * i → a3 x = a1 x ∧ E4 x = E1 x := fun x h1 h2 => ⟨(hA x (by omega)).trans (hag x (by omega)).1, (hne x (by omega)).trans ((hE x (by omega) (by omega)).trans (hag x (by omega)).2)⟩
        exact sk_2 (hall _ (by omega) (by omega)) (fun x h1 h2 => hall x (by omega) (by omega)) (hsh0 j (by omega))
set_option maxHeartbeats 4000000 in
set_option maxRecDepth 100000 in
theorem cX1 (l : Launch) : CC l yX1_init cX1_init 2 rm_1 73 552 73 1 fs0_1 sh_1 := by
  intro Γ a E n k0 hk0 he0
  obtain ⟨r0, fa_0⟩ : ∃ r0, a k0 = r0 := ⟨_, rfl⟩
  rw [fa_0]
  refine Met.ofW (cc := cX1_init) (maxL := 2) (ret := none) (by decide) rfl ?_
  intro p e s m args below meth c s₁ B hml hv
  obtain ⟨rfl, hbase, hN, hG⟩ := hv
  have hx := B.exec
  have hb := B.bytes
  have hr := B.returns
  have hts0 := atoms_spec (ws := wsy yX1_init cX1_init 2 none) B.pre
  have hts : ∀ w ∈ lwA, w.before ([.ref r0] : List Value).toArray s = true := fun w hw => hts0 w (List.mem_cons_of_mem _ hw)
  have hown : s.vm.findClass RX1 = some m.cls := findClass_of_methodNamed B.named
  have hin : meth.name = "<init>" := (name_of_methodNamed B.named B.method).1
  have hS : va_S (gA Γ) s.heap s.heap [] := va_S.rf
  have hl := lv_entry ([.ref r0]) (n := 2) (Nat.le_of_ble_eq_true rfl)
  rw [lg_entry_eq]
  generalize (lg_sl ([.ref r0]) ++ List.replicate (2 - (lg_sl ([.ref r0])).length) Slot.unset).toArray = ls at hl ⊢
  have hl : lv_has ls 2 [(0, .ref r0)] := hl
  have fE_0 := he0
  have hfr0 : ∀ j, j < n → a j = a j := fun _ _ => rfl
  have hfrE0 : ∀ j, j < n → j ≠ k0 → E j = E j := fun _ _ _ => rfl
  refine lv_aload_n hx hb dX1_init_0 rfl (lv_at hl 0 rfl) ?_
  refine W.objInit hx hb hown (hts _ wo_1) (hts _ wo_i) (hts _ wo_c) rfl (by rw [hml]; exact hl.1) rfl dX1_init_1 (Nat.le_of_ble_eq_true rfl) (Nat.le_of_ble_eq_true rfl) ?_
  refine W.eq (g2 := F0 m 4 ls []) rfl ?_
  refine lv_aload_n hx hb dX1_init_4 rfl (lv_at hl 0 rfl) ?_
  refine lv_bipush hx hb dX1_init_5 (v := 24) (by decide +kernel) ?_
  refine t_newq hx hb hts hown hG hS hbase (fcl 2).1 3 rfl wn_X1_9 hN.1 (N' := 24) (by decide) (by decide +kernel) (Nat.le_of_ble_eq_true rfl) (n1 := n + 1) rfl (c1 := 1) (s1 := 24) rfl rfl (Nat.le_of_ble_eq_true rfl) (Nat.le_of_ble_eq_true rfl) dX1_init_7 (fun rA a1 E1 H1 hag ga gE hG hS => ?_)
  have fa_1 : a1 k0 = r0 := (hag _ (by omega)).1.trans fa_0
  have fE_1 : E1 k0 = (.inr (1, fs0_1)) := (hag _ (by omega)).2.trans fE_0
  refine t_putF (ci := 1) (k := k0) (j := 0) (fs1 := [.ref rA, .int 0, .int 0, .int 0, .int 0, .int 0, .int 0, .int 0]) hx hb hts hown hG hS (by decide) (by omega) fa_1 fE_1 (by decide) (ftX1_ok _ (lookup_mem ftX1_11)).2.2 rfl hin rfl rfl rfl (Nat.le_of_ble_eq_true rfl) rfl dX1_init_10 (fun E2 H2 locs2 hne2 gE2 hG hS => ?_)
  refine lv_iconst hx hb dX1_init_13 (v := Int32.ofInt ((0 : Nat) : Int)) (by decide +kernel) ?_
  refine lv_istore_n hx hb dX1_init_14 rfl hl (by decide) rfl (fun ls2 hl2 => ?_)
  refine lp_1 (a := a) (E := E) (rA := rA) hx hb hml hown hts hbase hN hk0 (fun a3 E3 H3 locs3 ls3 I => ?_) 24 0 a1 E2 H2 locs2 ls2 rfl ⟨hG, hS, hl2, fa_1, ga, fun j hj => (hag j hj).1, fun j hj hj0 => (hne2 j hj0).trans (hag j hj).2, gE2, _, (hne2 _ (by omega)).trans gE, fun j hj => absurd hj (Nat.not_lt_zero j), fun j hj => absurd hj (Nat.not_lt_zero j)⟩
  obtain ⟨hG, hS, hl, fa_3, han, hfr, hfrE, gE3, f, hEn, hf, hsh⟩ := I
  refine lv_aload_n hx hb dX1_init_40 rfl (lv_at hl 1 rfl) ?_
  refine lv_bipush hx hb dX1_init_41 (v := 60) (by decide +kernel) ?_
  refine t_put (ci := 1) (k := k0) (j := 2) (fs1 := [.ref rA, .int 0, .int 60, .int 0, .int 0, .int 0, .int 0, .int 0]) hx hb hts hown hG hS (by decide) (by omega) fa_3 gE3 (by decide) (ftX1_ok _ (lookup_mem ftX1_18)).2.2 rfl rfl rfl (Nat.le_of_ble_eq_true rfl) rfl dX1_init_43 (fun E4 H4 locs4 hne4 gE4 hG hS => ?_)
  refine lv_aload_n hx hb dX1_init_46 rfl (lv_at hl 1 rfl) ?_
  refine lv_bipush hx hb dX1_init_47 (v := 40) (by decide +kernel) ?_
  refine t_put (ci := 1) (k := k0) (j := 3) (fs1 := [.ref rA, .int 0, .int 60, .int 40, .int 0, .int 0, .int 0, .int 0]) hx hb hts hown hG hS (by decide) (by omega) fa_3 gE4 (by decide) (ftX1_ok _ (lookup_mem ftX1_22)).2.2 rfl rfl rfl (Nat.le_of_ble_eq_true rfl) rfl dX1_init_49 (fun E5 H5 locs5 hne5 gE5 hG hS => ?_)
  refine lv_aload_n hx hb dX1_init_52 rfl (lv_at hl 1 rfl) ?_
  refine lv_iconst hx hb dX1_init_53 (v := 2) (by decide +kernel) ?_
  refine t_put (ci := 1) (k := k0) (j := 5) (fs1 := [.ref rA, .int 0, .int 60, .int 40, .int 0, .int 2, .int 0, .int 0]) hx hb hts hown hG hS (by decide) (by omega) fa_3 gE5 (by decide) (ftX1_ok _ (lookup_mem ftX1_25)).2.2 rfl rfl rfl (Nat.le_of_ble_eq_true rfl) rfl dX1_init_54 (fun E6 H6 locs6 hne6 gE6 hG hS => ?_)
  refine lv_aload_n hx hb dX1_init_57 rfl (lv_at hl 1 rfl) ?_
  refine lv_iconst hx hb dX1_init_58 (v := 5) (by decide +kernel) ?_
  refine t_put (ci := 1) (k := k0) (j := 6) (fs1 := [.ref rA, .int 0, .int 60, .int 40, .int 0, .int 2, .int 5, .int 0]) hx hb hts hown hG hS (by decide) (by omega) fa_3 gE6 (by decide) (ftX1_ok _ (lookup_mem ftX1_28)).2.2 rfl rfl rfl (Nat.le_of_ble_eq_true rfl) rfl dX1_init_59 (fun E7 H7 locs7 hne7 gE7 hG hS => ?_)
  have hch : ∀ j, j ≠ k0 → E7 j = E3 j := fun j h => (hne7 j h).trans ((hne6 j h).trans ((hne5 j h).trans (hne4 j h)))
  rw [← han] at gE7
  refine W.widen (k := 73) (n := 552) (by decide) (by decide) ?_
  exact W.vret hx hb hr (fun t ht hW => ⟨⟨(a3, E7), rfl, ⟨hfr, fun j hj hj0 => (hch j hj0).trans (hfrE j hj hj0), ⟨gE7, ⟨f, (hch _ (by omega)).trans hEn, hf⟩, fun j hj => sk_2 ⟨rfl, hch _ (by omega)⟩ (fun i h1 h2 => ⟨rfl, hch i (by omega)⟩) (hsh j hj)⟩⟩, by show GW Γ _ _ _ t t.heap; rw [ht]; exact gw_moved hW.alike hG⟩, hS.F ht⟩) hS.2.2 dX1_init_62
def li_3 (Γ : Ga) (s : State) (H0 : Heap) (n k0 r0 rA : Nat) (a : Nat → Nat) (E : Nat → va_E) (i : Nat) (a1 : Nat → Nat) (E1 : Nat → va_E) (H1 : Heap) (locs1 : List Loc) (ls1 : Array Slot) : Prop :=
  GW Γ a1 E1 (n + 1 + 74 * i) s H1 ∧ va_S (gA Γ) H0 H1 locs1 ∧ lv_has ls1 2 [(1, .int (Int32.ofInt (i : Int))), (0, .ref r0)] ∧ a1 k0 = r0 ∧ a1 n = rA ∧ (∀ j, j < n → a1 j = a j) ∧ (∀ j, j < n → j ≠ k0 → E1 j = E j) ∧ E1 k0 = .inr (3, [.ref rA, .int 0]) ∧
    ∃ f : Nat → Option Nat, E1 n = .inl (Γ.2.1 2, 4, .inr (.inr (.inr (.inr f)))) ∧ (∀ j, j < i → f j = some (a1 (n + 1 + 74 * j))) ∧ ∀ j, j < i → sh_1 Γ a1 E1 (n + 1 + 74 * j) (n + 2 + 74 * j)
set_option maxHeartbeats 4000000 in
set_option maxRecDepth 100000 in
theorem lp_3 {p : Program} {l : Launch} {e : Env} {s : State} {m : MethodId} {args : Array Value} {below : List Frame} {meth : Method} {c : Code} {H0 : Heap} {Q : State → Prop} {Γ : Ga} {a : Nat → Nat} {E : Nat → va_E} {n k0 r0 rA : Nat}
    (hx : p.tables.exec = Jvm.exec) (hb : c.code = cX3_init) (hml : c.maxLocals = 2) (hown : s.vm.findClass RX3 = some m.cls) (hts : ∀ w ∈ lwA, w.before args s = true) (hbase : Γ.2.2.2 ≤ H0.size) (hN : GN s) (hk0 : k0 < n)
    (kk : ∀ (a1 : Nat → Nat) (E1 : Nat → va_E) (H1 : Heap) (locs1 : List Loc) (ls1 : Array Slot), li_3 Γ s H0 n k0 r0 rA a E 4 a1 E1 H1 locs1 ls1 → W p l e rm_3 s m args below meth c H1 locs1 (1 + 74 * 4) (4 + 560 * 4) Q (F0 m 38 ls1 [])) :
    ∀ (d i : Nat) (a1 : Nat → Nat) (E1 : Nat → va_E) (H1 : Heap) (locs1 : List Loc) (ls1 : Array Slot), i + d = 4 → li_3 Γ s H0 n k0 r0 rA a E i a1 E1 H1 locs1 ls1 → W p l e rm_3 s m args below meth c H1 locs1 (1 + 74 * i) (4 + 560 * i) Q (F0 m 14 ls1 []) := by
  intro d
  induction d with
  | zero =>
    intro i a1 E1 H1 locs1 ls1 hi I
    obtain rfl : i = 4 := by omega
    have hl := I.2.2.1
    refine lv_iload_n hx hb dX3_init_14 rfl (lv_at hl 0 rfl) ?_
    refine lv_iconst hx hb dX3_init_15 (v := Int32.ofInt 4) (by decide +kernel) ?_
    refine lv_icmp_ge hx hb dX3_init_16 (tgt := 38) (by decide) (fun _ => kk _ _ _ _ _ I) (fun q => absurd (by decide +kernel) q)
  | succ d ih =>
    intro i a1 E1 H1 locs1 ls1 hi I
    obtain ⟨hG, hS, hl, ha0, han, hfr, hfrE, hE0, f, hEn, hf, hsh0⟩ := I
    refine lv_iload_n hx hb dX3_init_14 rfl (lv_at hl 0 rfl) ?_
    refine lv_iconst hx hb dX3_init_15 (v := Int32.ofInt 4) (by decide +kernel) ?_
    refine lv_icmp_ge hx hb dX3_init_16 (tgt := 38) (by decide) (fun q => ?_) (fun _ => ?_)
    · exfalso
      have h9 := (i32_le (by unfold inR; omega) (by unfold inR; omega)).mp q
      omega
    refine lv_aload_n hx hb dX3_init_19 rfl (lv_at hl 1 rfl) ?_
    refine t_get (ci := 3) (k := k0) (j := 0) (v := .ref rA) hx hb hts hown hG (by decide) (by omega) ha0 hE0 (by decide) (ftX3_ok _ (lookup_mem ftX3_11)).2.2 rfl dX3_init_20 ?_
    refine lv_iload_n hx hb dX3_init_23 rfl (lv_at hl 0 rfl) ?_
    refine t_new (ci := 1) hx hb hts hown hG hS hbase (by decide) wq_X3_9 df_1 (n1 := n + 2 + 74 * i) (by omega) (c1 := 2 + 74 * i) (s1 := 4 + 8 + 560 * i) (by omega) (by show _ + 8 = _; omega) (by show _ ≤ 297; omega) (by show _ ≤ 2244; omega) dX3_init_24 (fun q a2 E2 H2 hag ga gE hG2 hS2 => ?_)
    refine lv_dup hx hb dX3_init_27 rfl ?_
    refine t_call (cX1 l) hx hb hml hl.1 hts hown hG2 hS2 hbase hN rfl rfl rfl wl_X3_17_i wm_1 wi_1 wk_1 (by decide +kernel) ⟨Nat.le_of_ble_eq_true rfl, Nat.le_of_ble_eq_true rfl⟩ (k := n + 1 + 74 * i) (by omega) ga gE (Nat.le_of_ble_eq_true rfl) dX3_init_28 (n1 := n + 74 + 1 + 74 * i) (by omega) (c1 := 74 + 1 + 74 * i) (s1 := 4 + 560 + 560 * i) (by omega) (by omega) (by show _ ≤ 297; omega) (by show _ ≤ 2244; omega) (fun a3 E3 H3 locs3 hA hE hsh hG3 hS3 => ?_)
    have hq3 : a3 (n + 1 + 74 * i) = q := (hA _ (by omega)).trans ga
    have han3 : a3 n = rA := (hA _ (by omega)).trans ((hag _ (by omega)).1.trans han)
    have hEn3 : E3 n = .inl (Γ.2.1 2, 4, .inr (.inr (.inr (.inr f)))) := (hE _ (by omega) (by omega)).trans ((hag _ (by omega)).2.trans hEn)
    refine t_astq (ci := 1) (k := n) (kv := n + 1 + 74 * i) hx hb hG3 hS3 2 (by decide) rfl (by omega) han3 hEn3 (by omega) hq3 hsh.1 (i32_in (by omega) (by omega) (by decide)) (j := i) (i32_cl (by omega) (by omega)) dX3_init_31 (fun E4 H4 locs4 hne gE4 hG4 hS4 => ?_)
    refine lv_iinc hx hb dX3_init_32 hl (k := 0) rfl (i32_add _ _) (by decide) rfl (fun ls5 hl5 => ?_)
    refine lv_goto hx hb dX3_init_35 (tgt := 14) (by decide) ?_
    have e1 : ((i + 1 : Nat) : Int) = (i : Int) + 1 := by omega
    have h9 := ih (i + 1) a3 E4 H4 locs4 ls5 (by omega) ⟨by rw [show n + 1 + 74 * (i + 1) = n + 74 + 1 + 74 * i by omega]; exact hG4, hS4, by rw [e1]; exact hl5, (hA _ (by omega)).trans ((hag _ (by omega)).1.trans ha0), han3, fun j hj => (hA j (by omega)).trans ((hag j (by omega)).1.trans (hfr j hj)), fun j hj hj0 => (hne j (by omega)).trans ((hE j (by omega) (by omega)).trans ((hag j (by omega)).2.trans (hfrE j hj hj0))), (hne _ (by omega)).trans ((hE _ (by omega) (by omega)).trans ((hag _ (by omega)).2.trans hE0)), va_up f i (some q), gE4, fun j hj => ?_, fun j hj => ?_⟩
    · rw [show 1 + 74 * (i + 1) = 74 + 1 + 74 * i by omega, show 4 + 560 * (i + 1) = 4 + 560 + 560 * i by omega] at h9
      exact h9
    · by_cases hji : j = i
      · subst hji
        rw [va_up_self, hq3]
      · rw [va_up_ne _ _ hji, hf j (by omega), (hA (n + 1 + 74 * j) (by omega)), (hag (n + 1 + 74 * j) (by omega)).1]
    · by_cases hji : j = i
      · subst hji
        exact sk_1 ⟨rfl, hne _ (by omega)⟩ (fun x h1 h2 => ⟨rfl, hne x (by omega)⟩) hsh
      · have hall : ∀ x, n < x → x < n + 1 + 74 * i → a3 x = a1 x ∧ E4 x = E1 x := fun x h1 h2 => ⟨(hA x (by omega)).trans (hag x (by omega)).1, (hne x (by omega)).trans ((hE x (by omega) (by omega)).trans (hag x (by omega)).2)⟩
        exact sk_1 (hall _ (by omega) (by omega)) (fun x h1 h2 => hall x (by omega) (by omega)) (hsh0 j (by omega))
set_option maxHeartbeats 4000000 in
set_option maxRecDepth 100000 in
theorem cX3 (l : Launch) : CC l yX3_init cX3_init 2 rm_3 297 2244 297 3 fs0_3 sh_3 := by
  intro Γ a E n k0 hk0 he0
  obtain ⟨r0, fa_0⟩ : ∃ r0, a k0 = r0 := ⟨_, rfl⟩
  rw [fa_0]
  refine Met.ofW (cc := cX3_init) (maxL := 2) (ret := none) (by decide) rfl ?_
  intro p e s m args below meth c s₁ B hml hv
  obtain ⟨rfl, hbase, hN, hG⟩ := hv
  have hx := B.exec
  have hb := B.bytes
  have hr := B.returns
  have hts0 := atoms_spec (ws := wsy yX3_init cX3_init 2 none) B.pre
  have hts : ∀ w ∈ lwA, w.before ([.ref r0] : List Value).toArray s = true := fun w hw => hts0 w (List.mem_cons_of_mem _ hw)
  have hown : s.vm.findClass RX3 = some m.cls := findClass_of_methodNamed B.named
  have hin : meth.name = "<init>" := (name_of_methodNamed B.named B.method).1
  have hS : va_S (gA Γ) s.heap s.heap [] := va_S.rf
  have hl := lv_entry ([.ref r0]) (n := 2) (Nat.le_of_ble_eq_true rfl)
  rw [lg_entry_eq]
  generalize (lg_sl ([.ref r0]) ++ List.replicate (2 - (lg_sl ([.ref r0])).length) Slot.unset).toArray = ls at hl ⊢
  have hl : lv_has ls 2 [(0, .ref r0)] := hl
  have fE_0 := he0
  have hfr0 : ∀ j, j < n → a j = a j := fun _ _ => rfl
  have hfrE0 : ∀ j, j < n → j ≠ k0 → E j = E j := fun _ _ _ => rfl
  refine lv_aload_n hx hb dX3_init_0 rfl (lv_at hl 0 rfl) ?_
  refine W.objInit hx hb hown (hts _ wo_3) (hts _ wo_i) (hts _ wo_c) rfl (by rw [hml]; exact hl.1) rfl dX3_init_1 (Nat.le_of_ble_eq_true rfl) (Nat.le_of_ble_eq_true rfl) ?_
  refine W.eq (g2 := F0 m 4 ls []) rfl ?_
  refine lv_aload_n hx hb dX3_init_4 rfl (lv_at hl 0 rfl) ?_
  refine lv_iconst hx hb dX3_init_5 (v := 4) (by decide +kernel) ?_
  refine t_newq hx hb hts hown hG hS hbase (fcl 1).1 2 rfl wn_X3_9 hN.2.1 (N' := 4) (by decide) (by decide +kernel) (Nat.le_of_ble_eq_true rfl) (n1 := n + 1) rfl (c1 := 1) (s1 := 4) rfl rfl (Nat.le_of_ble_eq_true rfl) (Nat.le_of_ble_eq_true rfl) dX3_init_6 (fun rA a1 E1 H1 hag ga gE hG hS => ?_)
  have fa_1 : a1 k0 = r0 := (hag _ (by omega)).1.trans fa_0
  have fE_1 : E1 k0 = (.inr (3, fs0_3)) := (hag _ (by omega)).2.trans fE_0
  refine t_putF (ci := 3) (k := k0) (j := 0) (fs1 := [.ref rA, .int 0]) hx hb hts hown hG hS (by decide) (by omega) fa_1 fE_1 (by decide) (ftX3_ok _ (lookup_mem ftX3_11)).2.2 rfl hin rfl rfl rfl (Nat.le_of_ble_eq_true rfl) rfl dX3_init_9 (fun E2 H2 locs2 hne2 gE2 hG hS => ?_)
  refine lv_iconst hx hb dX3_init_12 (v := Int32.ofInt ((0 : Nat) : Int)) (by decide +kernel) ?_
  refine lv_istore_n hx hb dX3_init_13 rfl hl (by decide) rfl (fun ls2 hl2 => ?_)
  refine lp_3 (a := a) (E := E) (rA := rA) hx hb hml hown hts hbase hN hk0 (fun a3 E3 H3 locs3 ls3 I => ?_) 4 0 a1 E2 H2 locs2 ls2 rfl ⟨hG, hS, hl2, fa_1, ga, fun j hj => (hag j hj).1, fun j hj hj0 => (hne2 j hj0).trans (hag j hj).2, gE2, _, (hne2 _ (by omega)).trans gE, fun j hj => absurd hj (Nat.not_lt_zero j), fun j hj => absurd hj (Nat.not_lt_zero j)⟩
  obtain ⟨hG, hS, hl, fa_3, han, hfr, hfrE, gE3, f, hEn, hf, hsh⟩ := I
  have hch : ∀ j, j ≠ k0 → E3 j = E3 j := fun _ _ => rfl
  rw [← han] at gE3
  refine W.widen (k := 297) (n := 2244) (by decide) (by decide) ?_
  exact W.vret hx hb hr (fun t ht hW => ⟨⟨(a3, E3), rfl, ⟨hfr, fun j hj hj0 => (hch j hj0).trans (hfrE j hj hj0), ⟨gE3, ⟨f, (hch _ (by omega)).trans hEn, hf⟩, fun j hj => sk_1 ⟨rfl, hch _ (by omega)⟩ (fun i h1 h2 => ⟨rfl, hch i (by omega)⟩) (hsh j hj)⟩⟩, by show GW Γ _ _ _ t t.heap; rw [ht]; exact gw_moved hW.alike hG⟩, hS.F ht⟩) hS.2.2 dX3_init_38
set_option maxHeartbeats 4000000 in
set_option maxRecDepth 100000 in
theorem cX7 (l : Launch) : CC l yX7_init cX7_init 1 rm_7 454 3717 454 7 fs0_7 sh_7 := by
  intro Γ a E n k0 hk0 he0
  obtain ⟨r0, fa_0⟩ : ∃ r0, a k0 = r0 := ⟨_, rfl⟩
  rw [fa_0]
  refine Met.ofW (cc := cX7_init) (maxL := 1) (ret := none) (by decide) rfl ?_
  intro p e s m args below meth c s₁ B hml hv
  obtain ⟨rfl, hbase, hN, hG⟩ := hv
  have hx := B.exec
  have hb := B.bytes
  have hr := B.returns
  have hts0 := atoms_spec (ws := wsy yX7_init cX7_init 1 none) B.pre
  have hts : ∀ w ∈ lwA, w.before ([.ref r0] : List Value).toArray s = true := fun w hw => hts0 w (List.mem_cons_of_mem _ hw)
  have hown : s.vm.findClass RX7 = some m.cls := findClass_of_methodNamed B.named
  have hin : meth.name = "<init>" := (name_of_methodNamed B.named B.method).1
  have hS : va_S (gA Γ) s.heap s.heap [] := va_S.rf
  have hl := lv_entry ([.ref r0]) (n := 1) (Nat.le_of_ble_eq_true rfl)
  rw [lg_entry_eq]
  generalize (lg_sl ([.ref r0]) ++ List.replicate (1 - (lg_sl ([.ref r0])).length) Slot.unset).toArray = ls at hl ⊢
  have hl : lv_has ls 1 [(0, .ref r0)] := hl
  have fE_0 := he0
  have hfr0 : ∀ j, j < n → a j = a j := fun _ _ => rfl
  have hfrE0 : ∀ j, j < n → j ≠ k0 → E j = E j := fun _ _ _ => rfl
  refine lv_aload_n hx hb dX7_init_0 rfl (lv_at hl 0 rfl) ?_
  refine W.objInit hx hb hown (hts _ wo_7) (hts _ wo_i) (hts _ wo_c) rfl (by rw [hml]; exact hl.1) rfl dX7_init_1 (Nat.le_of_ble_eq_true rfl) (Nat.le_of_ble_eq_true rfl) ?_
  refine W.eq (g2 := F0 m 4 ls []) rfl ?_
  refine lv_aload_n hx hb dX7_init_4 rfl (lv_at hl 0 rfl) ?_
  refine t_new hx hb hts hown hG hS hbase (ci := 6) (by decide) wq_X7_7 df_6 (n1 := n + 1) (by omega) (c1 := 1) (s1 := 4) rfl rfl (Nat.le_of_ble_eq_true rfl) (Nat.le_of_ble_eq_true rfl) dX7_init_5 (fun q1 a1 E1 H1 hag1 ga1 gE1 hG hS => ?_)
  have fa_0_1 : a1 k0 = r0 := (hag1 _ (by omega)).1.trans fa_0
  have fE_0_1 : E1 k0 = (.inr (7, fs0_7)) := (hag1 _ (by omega)).2.trans fE_0
  have hfr1 : ∀ j, j < n → a1 j = a j := fun j hj => (hag1 j (by omega)).1.trans (hfr0 j hj)
  have hfrE1 : ∀ j, j < n → j ≠ k0 → E1 j = E j := fun j hj hne => (hag1 j (by omega)).2.trans (hfrE0 j hj hne)
  refine lv_dup hx hb dX7_init_8 rfl ?_
  refine t_call (cX6 l) hx hb hml hl.1 hts hown hG hS hbase hN rfl rfl rfl wl_X7_9_i wm_6 wi_6 wk_6 (by decide +kernel) ⟨Nat.le_of_ble_eq_true rfl, Nat.le_of_ble_eq_true rfl⟩ (by omega) ga1 gE1 (Nat.le_of_ble_eq_true rfl) dX7_init_9 (n1 := n + 2) (by omega) (c1 := 2) (s1 := 204) rfl rfl (Nat.le_of_ble_eq_true rfl) (Nat.le_of_ble_eq_true rfl) (fun a2 E2 H2 locs2 hA2 hE2 hsh2 hG hS => ?_)
  have fa_0_1_2 : a2 k0 = r0 := (hA2 _ (by omega)).trans fa_0_1
  have fE_0_1_2 : E2 k0 = (.inr (7, fs0_7)) := (hE2 _ (by omega) (by omega)).trans fE_0_1
  have ga1_2 : a2 n = q1 := (hA2 _ (by omega)).trans ga1
  have hfr2 : ∀ j, j < n → a2 j = a j := fun j hj => (hA2 j (by omega)).trans (hfr1 j hj)
  have hfrE2 : ∀ j, j < n → j ≠ k0 → E2 j = E j := fun j hj hne => (hE2 j (by omega) (by omega)).trans (hfrE1 j hj hne)
  refine t_putF (ci := 7) (k := k0) (j := 0) (fs1 := [.ref q1, .null, .null, .null, .null, .null]) hx hb hts hown hG hS (by decide) (by omega) fa_0_1_2 fE_0_1_2 (by decide) (ftX7_ok _ (lookup_mem ftX7_10)).2.2 rfl hin rfl rfl rfl (Nat.le_of_ble_eq_true rfl) rfl dX7_init_12 (fun E3 H3 locs3 hne3 gE3 hG hS => ?_)
  have hsh2_3 : sh_6 Γ a2 E3 n (n + 1) := sk_6 ⟨rfl, hne3 _ (by omega)⟩ (fun j h1 h2 => ⟨rfl, hne3 j (by omega)⟩) hsh2
  have hfrE3 : ∀ j, j < n → j ≠ k0 → E3 j = E j := fun j hj hk => (hne3 j hk).trans (hfrE2 j hj hk)
  refine lv_aload_n hx hb dX7_init_15 rfl (lv_at hl 0 rfl) ?_
  refine t_new hx hb hts hown hG hS hbase (ci := 1) (by decide) wq_X7_16 df_1 (n1 := n + 3) (by omega) (c1 := 3) (s1 := 212) rfl rfl (Nat.le_of_ble_eq_true rfl) (Nat.le_of_ble_eq_true rfl) dX7_init_16 (fun q4 a4 E4 H4 hag4 ga4 gE4 hG hS => ?_)
  have fa_0_1_2_4 : a4 k0 = r0 := (hag4 _ (by omega)).1.trans fa_0_1_2
  have gE3_4 : E4 k0 = (.inr (7, [.ref q1, .null, .null, .null, .null, .null])) := (hag4 _ (by omega)).2.trans gE3
  have ga1_2_4 : a4 n = q1 := (hag4 _ (by omega)).1.trans ga1_2
  have hsh2_3_4 : sh_6 Γ a4 E4 n (n + 1) := sk_6 (hag4 _ (by omega)) (fun j h1 h2 => hag4 j (by omega)) hsh2_3
  have hfr4 : ∀ j, j < n → a4 j = a j := fun j hj => (hag4 j (by omega)).1.trans (hfr2 j hj)
  have hfrE4 : ∀ j, j < n → j ≠ k0 → E4 j = E j := fun j hj hne => (hag4 j (by omega)).2.trans (hfrE3 j hj hne)
  refine lv_dup hx hb dX7_init_19 rfl ?_
  refine t_call (cX1 l) hx hb hml hl.1 hts hown hG hS hbase hN rfl rfl rfl wl_X7_18_i wm_1 wi_1 wk_1 (by decide +kernel) ⟨Nat.le_of_ble_eq_true rfl, Nat.le_of_ble_eq_true rfl⟩ (by omega) ga4 gE4 (Nat.le_of_ble_eq_true rfl) dX7_init_20 (n1 := n + 76) (by omega) (c1 := 76) (s1 := 764) rfl rfl (Nat.le_of_ble_eq_true rfl) (Nat.le_of_ble_eq_true rfl) (fun a5 E5 H5 locs5 hA5 hE5 hsh5 hG hS => ?_)
  have fa_0_1_2_4_5 : a5 k0 = r0 := (hA5 _ (by omega)).trans fa_0_1_2_4
  have gE3_4_5 : E5 k0 = (.inr (7, [.ref q1, .null, .null, .null, .null, .null])) := (hE5 _ (by omega) (by omega)).trans gE3_4
  have ga4_5 : a5 (n + 2) = q4 := (hA5 _ (by omega)).trans ga4
  have ga1_2_4_5 : a5 n = q1 := (hA5 _ (by omega)).trans ga1_2_4
  have hsh2_3_4_5 : sh_6 Γ a5 E5 n (n + 1) := sk_6 ⟨hA5 _ (by omega), hE5 _ (by omega) (by omega)⟩ (fun j h1 h2 => ⟨hA5 j (by omega), hE5 j (by omega) (by omega)⟩) hsh2_3_4
  have hfr5 : ∀ j, j < n → a5 j = a j := fun j hj => (hA5 j (by omega)).trans (hfr4 j hj)
  have hfrE5 : ∀ j, j < n → j ≠ k0 → E5 j = E j := fun j hj hne => (hE5 j (by omega) (by omega)).trans (hfrE4 j hj hne)
  refine t_putF (ci := 7) (k := k0) (j := 1) (fs1 := [.ref q1, .ref q4, .null, .null, .null, .null]) hx hb hts hown hG hS (by decide) (by omega) fa_0_1_2_4_5 gE3_4_5 (by decide) (ftX7_ok _ (lookup_mem ftX7_19)).2.2 rfl hin rfl rfl rfl (Nat.le_of_ble_eq_true rfl) rfl dX7_init_23 (fun E6 H6 locs6 hne6 gE6 hG hS => ?_)
  have hsh2_3_4_5_6 : sh_6 Γ a5 E6 n (n + 1) := sk_6 ⟨rfl, hne6 _ (by omega)⟩ (fun j h1 h2 => ⟨rfl, hne6 j (by omega)⟩) hsh2_3_4_5
  have hsh5_6 : sh_1 Γ a5 E6 (n + 2) (n + 3) := sk_1 ⟨rfl, hne6 _ (by omega)⟩ (fun j h1 h2 => ⟨rfl, hne6 j (by omega)⟩) hsh5
  have hfrE6 : ∀ j, j < n → j ≠ k0 → E6 j = E j := fun j hj hk => (hne6 j hk).trans (hfrE5 j hj hk)
  refine lv_aload_n hx hb dX7_init_26 rfl (lv_at hl 0 rfl) ?_
  refine t_new hx hb hts hown hG hS hbase (ci := 1) (by decide) wq_X7_16 df_1 (n1 := n + 77) (by omega) (c1 := 77) (s1 := 772) rfl rfl (Nat.le_of_ble_eq_true rfl) (Nat.le_of_ble_eq_true rfl) dX7_init_27 (fun q7 a7 E7 H7 hag7 ga7 gE7 hG hS => ?_)
  have fa_0_1_2_4_5_7 : a7 k0 = r0 := (hag7 _ (by omega)).1.trans fa_0_1_2_4_5
  have gE6_7 : E7 k0 = (.inr (7, [.ref q1, .ref q4, .null, .null, .null, .null])) := (hag7 _ (by omega)).2.trans gE6
  have ga1_2_4_5_7 : a7 n = q1 := (hag7 _ (by omega)).1.trans ga1_2_4_5
  have ga4_5_7 : a7 (n + 2) = q4 := (hag7 _ (by omega)).1.trans ga4_5
  have hsh2_3_4_5_6_7 : sh_6 Γ a7 E7 n (n + 1) := sk_6 (hag7 _ (by omega)) (fun j h1 h2 => hag7 j (by omega)) hsh2_3_4_5_6
  have hsh5_6_7 : sh_1 Γ a7 E7 (n + 2) (n + 3) := sk_1 (hag7 _ (by omega)) (fun j h1 h2 => hag7 j (by omega)) hsh5_6
  have hfr7 : ∀ j, j < n → a7 j = a j := fun j hj => (hag7 j (by omega)).1.trans (hfr5 j hj)
  have hfrE7 : ∀ j, j < n → j ≠ k0 → E7 j = E j := fun j hj hne => (hag7 j (by omega)).2.trans (hfrE6 j hj hne)
  refine lv_dup hx hb dX7_init_30 rfl ?_
  refine t_call (cX1 l) hx hb hml hl.1 hts hown hG hS hbase hN rfl rfl rfl wl_X7_18_i wm_1 wi_1 wk_1 (by decide +kernel) ⟨Nat.le_of_ble_eq_true rfl, Nat.le_of_ble_eq_true rfl⟩ (by omega) ga7 gE7 (Nat.le_of_ble_eq_true rfl) dX7_init_31 (n1 := n + 150) (by omega) (c1 := 150) (s1 := 1324) rfl rfl (Nat.le_of_ble_eq_true rfl) (Nat.le_of_ble_eq_true rfl) (fun a8 E8 H8 locs8 hA8 hE8 hsh8 hG hS => ?_)
  have fa_0_1_2_4_5_7_8 : a8 k0 = r0 := (hA8 _ (by omega)).trans fa_0_1_2_4_5_7
  have gE6_7_8 : E8 k0 = (.inr (7, [.ref q1, .ref q4, .null, .null, .null, .null])) := (hE8 _ (by omega) (by omega)).trans gE6_7
  have ga7_8 : a8 (n + 76) = q7 := (hA8 _ (by omega)).trans ga7
  have ga1_2_4_5_7_8 : a8 n = q1 := (hA8 _ (by omega)).trans ga1_2_4_5_7
  have ga4_5_7_8 : a8 (n + 2) = q4 := (hA8 _ (by omega)).trans ga4_5_7
  have hsh2_3_4_5_6_7_8 : sh_6 Γ a8 E8 n (n + 1) := sk_6 ⟨hA8 _ (by omega), hE8 _ (by omega) (by omega)⟩ (fun j h1 h2 => ⟨hA8 j (by omega), hE8 j (by omega) (by omega)⟩) hsh2_3_4_5_6_7
  have hsh5_6_7_8 : sh_1 Γ a8 E8 (n + 2) (n + 3) := sk_1 ⟨hA8 _ (by omega), hE8 _ (by omega) (by omega)⟩ (fun j h1 h2 => ⟨hA8 j (by omega), hE8 j (by omega) (by omega)⟩) hsh5_6_7
  have hfr8 : ∀ j, j < n → a8 j = a j := fun j hj => (hA8 j (by omega)).trans (hfr7 j hj)
  have hfrE8 : ∀ j, j < n → j ≠ k0 → E8 j = E j := fun j hj hne => (hE8 j (by omega) (by omega)).trans (hfrE7 j hj hne)
  refine t_putF (ci := 7) (k := k0) (j := 2) (fs1 := [.ref q1, .ref q4, .ref q7, .null, .null, .null]) hx hb hts hown hG hS (by decide) (by omega) fa_0_1_2_4_5_7_8 gE6_7_8 (by decide) (ftX7_ok _ (lookup_mem ftX7_23)).2.2 rfl hin rfl rfl rfl (Nat.le_of_ble_eq_true rfl) rfl dX7_init_34 (fun E9 H9 locs9 hne9 gE9 hG hS => ?_)
  have hsh2_3_4_5_6_7_8_9 : sh_6 Γ a8 E9 n (n + 1) := sk_6 ⟨rfl, hne9 _ (by omega)⟩ (fun j h1 h2 => ⟨rfl, hne9 j (by omega)⟩) hsh2_3_4_5_6_7_8
  have hsh5_6_7_8_9 : sh_1 Γ a8 E9 (n + 2) (n + 3) := sk_1 ⟨rfl, hne9 _ (by omega)⟩ (fun j h1 h2 => ⟨rfl, hne9 j (by omega)⟩) hsh5_6_7_8
  have hsh8_9 : sh_1 Γ a8 E9 (n + 76) (n + 77) := sk_1 ⟨rfl, hne9 _ (by omega)⟩ (fun j h1 h2 => ⟨rfl, hne9 j (by omega)⟩) hsh8
  have hfrE9 : ∀ j, j < n → j ≠ k0 → E9 j = E j := fun j hj hk => (hne9 j hk).trans (hfrE8 j hj hk)
  refine lv_aload_n hx hb dX7_init_37 rfl (lv_at hl 0 rfl) ?_
  refine t_new hx hb hts hown hG hS hbase (ci := 3) (by decide) wq_X7_26 df_3 (n1 := n + 151) (by omega) (c1 := 151) (s1 := 1326) rfl rfl (Nat.le_of_ble_eq_true rfl) (Nat.le_of_ble_eq_true rfl) dX7_init_38 (fun q10 a10 E10 H10 hag10 ga10 gE10 hG hS => ?_)
  have fa_0_1_2_4_5_7_8_10 : a10 k0 = r0 := (hag10 _ (by omega)).1.trans fa_0_1_2_4_5_7_8
  have gE9_10 : E10 k0 = (.inr (7, [.ref q1, .ref q4, .ref q7, .null, .null, .null])) := (hag10 _ (by omega)).2.trans gE9
  have ga1_2_4_5_7_8_10 : a10 n = q1 := (hag10 _ (by omega)).1.trans ga1_2_4_5_7_8
  have ga4_5_7_8_10 : a10 (n + 2) = q4 := (hag10 _ (by omega)).1.trans ga4_5_7_8
  have ga7_8_10 : a10 (n + 76) = q7 := (hag10 _ (by omega)).1.trans ga7_8
  have hsh2_3_4_5_6_7_8_9_10 : sh_6 Γ a10 E10 n (n + 1) := sk_6 (hag10 _ (by omega)) (fun j h1 h2 => hag10 j (by omega)) hsh2_3_4_5_6_7_8_9
  have hsh5_6_7_8_9_10 : sh_1 Γ a10 E10 (n + 2) (n + 3) := sk_1 (hag10 _ (by omega)) (fun j h1 h2 => hag10 j (by omega)) hsh5_6_7_8_9
  have hsh8_9_10 : sh_1 Γ a10 E10 (n + 76) (n + 77) := sk_1 (hag10 _ (by omega)) (fun j h1 h2 => hag10 j (by omega)) hsh8_9
  have hfr10 : ∀ j, j < n → a10 j = a j := fun j hj => (hag10 j (by omega)).1.trans (hfr8 j hj)
  have hfrE10 : ∀ j, j < n → j ≠ k0 → E10 j = E j := fun j hj hne => (hag10 j (by omega)).2.trans (hfrE9 j hj hne)
  refine lv_dup hx hb dX7_init_41 rfl ?_
  refine t_call (cX3 l) hx hb hml hl.1 hts hown hG hS hbase hN rfl rfl rfl wl_X7_28_i wm_3 wi_3 wk_3 (by decide +kernel) ⟨Nat.le_of_ble_eq_true rfl, Nat.le_of_ble_eq_true rfl⟩ (by omega) ga10 gE10 (Nat.le_of_ble_eq_true rfl) dX7_init_42 (n1 := n + 448) (by omega) (c1 := 448) (s1 := 3570) rfl rfl (Nat.le_of_ble_eq_true rfl) (Nat.le_of_ble_eq_true rfl) (fun a11 E11 H11 locs11 hA11 hE11 hsh11 hG hS => ?_)
  have fa_0_1_2_4_5_7_8_10_11 : a11 k0 = r0 := (hA11 _ (by omega)).trans fa_0_1_2_4_5_7_8_10
  have gE9_10_11 : E11 k0 = (.inr (7, [.ref q1, .ref q4, .ref q7, .null, .null, .null])) := (hE11 _ (by omega) (by omega)).trans gE9_10
  have ga10_11 : a11 (n + 150) = q10 := (hA11 _ (by omega)).trans ga10
  have ga1_2_4_5_7_8_10_11 : a11 n = q1 := (hA11 _ (by omega)).trans ga1_2_4_5_7_8_10
  have ga4_5_7_8_10_11 : a11 (n + 2) = q4 := (hA11 _ (by omega)).trans ga4_5_7_8_10
  have ga7_8_10_11 : a11 (n + 76) = q7 := (hA11 _ (by omega)).trans ga7_8_10
  have hsh2_3_4_5_6_7_8_9_10_11 : sh_6 Γ a11 E11 n (n + 1) := sk_6 ⟨hA11 _ (by omega), hE11 _ (by omega) (by omega)⟩ (fun j h1 h2 => ⟨hA11 j (by omega), hE11 j (by omega) (by omega)⟩) hsh2_3_4_5_6_7_8_9_10
  have hsh5_6_7_8_9_10_11 : sh_1 Γ a11 E11 (n + 2) (n + 3) := sk_1 ⟨hA11 _ (by omega), hE11 _ (by omega) (by omega)⟩ (fun j h1 h2 => ⟨hA11 j (by omega), hE11 j (by omega) (by omega)⟩) hsh5_6_7_8_9_10
  have hsh8_9_10_11 : sh_1 Γ a11 E11 (n + 76) (n + 77) := sk_1 ⟨hA11 _ (by omega), hE11 _ (by omega) (by omega)⟩ (fun j h1 h2 => ⟨hA11 j (by omega), hE11 j (by omega) (by omega)⟩) hsh8_9_10
  have hfr11 : ∀ j, j < n → a11 j = a j := fun j hj => (hA11 j (by omega)).trans (hfr10 j hj)
  have hfrE11 : ∀ j, j < n → j ≠ k0 → E11 j = E j := fun j hj hne => (hE11 j (by omega) (by omega)).trans (hfrE10 j hj hne)
  refine t_putF (ci := 7) (k := k0) (j := 3) (fs1 := [.ref q1, .ref q4, .ref q7, .ref q10, .null, .null]) hx hb hts hown hG hS (by decide) (by omega) fa_0_1_2_4_5_7_8_10_11 gE9_10_11 (by decide) (ftX7_ok _ (lookup_mem ftX7_29)).2.2 rfl hin rfl rfl rfl (Nat.le_of_ble_eq_true rfl) rfl dX7_init_45 (fun E12 H12 locs12 hne12 gE12 hG hS => ?_)
  have hsh2_3_4_5_6_7_8_9_10_11_12 : sh_6 Γ a11 E12 n (n + 1) := sk_6 ⟨rfl, hne12 _ (by omega)⟩ (fun j h1 h2 => ⟨rfl, hne12 j (by omega)⟩) hsh2_3_4_5_6_7_8_9_10_11
  have hsh5_6_7_8_9_10_11_12 : sh_1 Γ a11 E12 (n + 2) (n + 3) := sk_1 ⟨rfl, hne12 _ (by omega)⟩ (fun j h1 h2 => ⟨rfl, hne12 j (by omega)⟩) hsh5_6_7_8_9_10_11
  have hsh8_9_10_11_12 : sh_1 Γ a11 E12 (n + 76) (n + 77) := sk_1 ⟨rfl, hne12 _ (by omega)⟩ (fun j h1 h2 => ⟨rfl, hne12 j (by omega)⟩) hsh8_9_10_11
  have hsh11_12 : sh_3 Γ a11 E12 (n + 150) (n + 151) := sk_3 ⟨rfl, hne12 _ (by omega)⟩ (fun j h1 h2 => ⟨rfl, hne12 j (by omega)⟩) hsh11
  have hfrE12 : ∀ j, j < n → j ≠ k0 → E12 j = E j := fun j hj hk => (hne12 j hk).trans (hfrE11 j hj hk)
  refine lv_aload_n hx hb dX7_init_48 rfl (lv_at hl 0 rfl) ?_
  refine t_new hx hb hts hown hG hS hbase (ci := 4) (by decide) wq_X7_33 df_4 (n1 := n + 449) (by omega) (c1 := 449) (s1 := 3576) rfl rfl (Nat.le_of_ble_eq_true rfl) (Nat.le_of_ble_eq_true rfl) dX7_init_49 (fun q13 a13 E13 H13 hag13 ga13 gE13 hG hS => ?_)
  have fa_0_1_2_4_5_7_8_10_11_13 : a13 k0 = r0 := (hag13 _ (by omega)).1.trans fa_0_1_2_4_5_7_8_10_11
  have gE12_13 : E13 k0 = (.inr (7, [.ref q1, .ref q4, .ref q7, .ref q10, .null, .null])) := (hag13 _ (by omega)).2.trans gE12
  have ga1_2_4_5_7_8_10_11_13 : a13 n = q1 := (hag13 _ (by omega)).1.trans ga1_2_4_5_7_8_10_11
  have ga4_5_7_8_10_11_13 : a13 (n + 2) = q4 := (hag13 _ (by omega)).1.trans ga4_5_7_8_10_11
  have ga7_8_10_11_13 : a13 (n + 76) = q7 := (hag13 _ (by omega)).1.trans ga7_8_10_11
  have ga10_11_13 : a13 (n + 150) = q10 := (hag13 _ (by omega)).1.trans ga10_11
  have hsh2_3_4_5_6_7_8_9_10_11_12_13 : sh_6 Γ a13 E13 n (n + 1) := sk_6 (hag13 _ (by omega)) (fun j h1 h2 => hag13 j (by omega)) hsh2_3_4_5_6_7_8_9_10_11_12
  have hsh5_6_7_8_9_10_11_12_13 : sh_1 Γ a13 E13 (n + 2) (n + 3) := sk_1 (hag13 _ (by omega)) (fun j h1 h2 => hag13 j (by omega)) hsh5_6_7_8_9_10_11_12
  have hsh8_9_10_11_12_13 : sh_1 Γ a13 E13 (n + 76) (n + 77) := sk_1 (hag13 _ (by omega)) (fun j h1 h2 => hag13 j (by omega)) hsh8_9_10_11_12
  have hsh11_12_13 : sh_3 Γ a13 E13 (n + 150) (n + 151) := sk_3 (hag13 _ (by omega)) (fun j h1 h2 => hag13 j (by omega)) hsh11_12
  have hfr13 : ∀ j, j < n → a13 j = a j := fun j hj => (hag13 j (by omega)).1.trans (hfr11 j hj)
  have hfrE13 : ∀ j, j < n → j ≠ k0 → E13 j = E j := fun j hj hne => (hag13 j (by omega)).2.trans (hfrE12 j hj hne)
  refine lv_dup hx hb dX7_init_52 rfl ?_
  refine t_call (cX4 l) hx hb hml hl.1 hts hown hG hS hbase hN rfl rfl rfl wl_X7_35_i wm_4 wi_4 wk_4 (by decide +kernel) ⟨Nat.le_of_ble_eq_true rfl, Nat.le_of_ble_eq_true rfl⟩ (by omega) ga13 gE13 (Nat.le_of_ble_eq_true rfl) dX7_init_53 (n1 := n + 453) (by omega) (c1 := 453) (s1 := 3637) rfl rfl (Nat.le_of_ble_eq_true rfl) (Nat.le_of_ble_eq_true rfl) (fun a14 E14 H14 locs14 hA14 hE14 hsh14 hG hS => ?_)
  have fa_0_1_2_4_5_7_8_10_11_13_14 : a14 k0 = r0 := (hA14 _ (by omega)).trans fa_0_1_2_4_5_7_8_10_11_13
  have gE12_13_14 : E14 k0 = (.inr (7, [.ref q1, .ref q4, .ref q7, .ref q10, .null, .null])) := (hE14 _ (by omega) (by omega)).trans gE12_13
  have ga13_14 : a14 (n + 448) = q13 := (hA14 _ (by omega)).trans ga13
  have ga1_2_4_5_7_8_10_11_13_14 : a14 n = q1 := (hA14 _ (by omega)).trans ga1_2_4_5_7_8_10_11_13
  have ga4_5_7_8_10_11_13_14 : a14 (n + 2) = q4 := (hA14 _ (by omega)).trans ga4_5_7_8_10_11_13
  have ga7_8_10_11_13_14 : a14 (n + 76) = q7 := (hA14 _ (by omega)).trans ga7_8_10_11_13
  have ga10_11_13_14 : a14 (n + 150) = q10 := (hA14 _ (by omega)).trans ga10_11_13
  have hsh2_3_4_5_6_7_8_9_10_11_12_13_14 : sh_6 Γ a14 E14 n (n + 1) := sk_6 ⟨hA14 _ (by omega), hE14 _ (by omega) (by omega)⟩ (fun j h1 h2 => ⟨hA14 j (by omega), hE14 j (by omega) (by omega)⟩) hsh2_3_4_5_6_7_8_9_10_11_12_13
  have hsh5_6_7_8_9_10_11_12_13_14 : sh_1 Γ a14 E14 (n + 2) (n + 3) := sk_1 ⟨hA14 _ (by omega), hE14 _ (by omega) (by omega)⟩ (fun j h1 h2 => ⟨hA14 j (by omega), hE14 j (by omega) (by omega)⟩) hsh5_6_7_8_9_10_11_12_13
  have hsh8_9_10_11_12_13_14 : sh_1 Γ a14 E14 (n + 76) (n + 77) := sk_1 ⟨hA14 _ (by omega), hE14 _ (by omega) (by omega)⟩ (fun j h1 h2 => ⟨hA14 j (by omega), hE14 j (by omega) (by omega)⟩) hsh8_9_10_11_12_13
  have hsh11_12_13_14 : sh_3 Γ a14 E14 (n + 150) (n + 151) := sk_3 ⟨hA14 _ (by omega), hE14 _ (by omega) (by omega)⟩ (fun j h1 h2 => ⟨hA14 j (by omega), hE14 j (by omega) (by omega)⟩) hsh11_12_13
  have hfr14 : ∀ j, j < n → a14 j = a j := fun j hj => (hA14 j (by omega)).trans (hfr13 j hj)
  have hfrE14 : ∀ j, j < n → j ≠ k0 → E14 j = E j := fun j hj hne => (hE14 j (by omega) (by omega)).trans (hfrE13 j hj hne)
  refine t_putF (ci := 7) (k := k0) (j := 4) (fs1 := [.ref q1, .ref q4, .ref q7, .ref q10, .ref q13, .null]) hx hb hts hown hG hS (by decide) (by omega) fa_0_1_2_4_5_7_8_10_11_13_14 gE12_13_14 (by decide) (ftX7_ok _ (lookup_mem ftX7_36)).2.2 rfl hin rfl rfl rfl (Nat.le_of_ble_eq_true rfl) rfl dX7_init_56 (fun E15 H15 locs15 hne15 gE15 hG hS => ?_)
  have hsh2_3_4_5_6_7_8_9_10_11_12_13_14_15 : sh_6 Γ a14 E15 n (n + 1) := sk_6 ⟨rfl, hne15 _ (by omega)⟩ (fun j h1 h2 => ⟨rfl, hne15 j (by omega)⟩) hsh2_3_4_5_6_7_8_9_10_11_12_13_14
  have hsh5_6_7_8_9_10_11_12_13_14_15 : sh_1 Γ a14 E15 (n + 2) (n + 3) := sk_1 ⟨rfl, hne15 _ (by omega)⟩ (fun j h1 h2 => ⟨rfl, hne15 j (by omega)⟩) hsh5_6_7_8_9_10_11_12_13_14
  have hsh8_9_10_11_12_13_14_15 : sh_1 Γ a14 E15 (n + 76) (n + 77) := sk_1 ⟨rfl, hne15 _ (by omega)⟩ (fun j h1 h2 => ⟨rfl, hne15 j (by omega)⟩) hsh8_9_10_11_12_13_14
  have hsh11_12_13_14_15 : sh_3 Γ a14 E15 (n + 150) (n + 151) := sk_3 ⟨rfl, hne15 _ (by omega)⟩ (fun j h1 h2 => ⟨rfl, hne15 j (by omega)⟩) hsh11_12_13_14
  have hsh14_15 : sh_4 Γ a14 E15 (n + 448) (n + 449) := sk_4 ⟨rfl, hne15 _ (by omega)⟩ (fun j h1 h2 => ⟨rfl, hne15 j (by omega)⟩) hsh14
  have hfrE15 : ∀ j, j < n → j ≠ k0 → E15 j = E j := fun j hj hk => (hne15 j hk).trans (hfrE14 j hj hk)
  refine lv_aload_n hx hb dX7_init_59 rfl (lv_at hl 0 rfl) ?_
  refine lv_bipush hx hb dX7_init_60 (v := 80) (by decide +kernel) ?_
  refine t_newa hx hb hts hG hS hbase .boolean .boolean 1 rfl rfl wa_boolean (N' := 80) (a0 := (80, .inl fun _ => 0)) (fun _ => rfl) (by decide) (by decide +kernel) (Nat.le_of_ble_eq_true rfl) (n1 := n + 454) (by omega) (c1 := 454) (s1 := 3717) rfl rfl (Nat.le_of_ble_eq_true rfl) (Nat.le_of_ble_eq_true rfl) dX7_init_62 (fun q16 a16 E16 H16 hag16 ga16 gE16 hG hS => ?_)
  have fa_0_1_2_4_5_7_8_10_11_13_14_16 : a16 k0 = r0 := (hag16 _ (by omega)).1.trans fa_0_1_2_4_5_7_8_10_11_13_14
  have gE15_16 : E16 k0 = (.inr (7, [.ref q1, .ref q4, .ref q7, .ref q10, .ref q13, .null])) := (hag16 _ (by omega)).2.trans gE15
  have ga1_2_4_5_7_8_10_11_13_14_16 : a16 n = q1 := (hag16 _ (by omega)).1.trans ga1_2_4_5_7_8_10_11_13_14
  have ga4_5_7_8_10_11_13_14_16 : a16 (n + 2) = q4 := (hag16 _ (by omega)).1.trans ga4_5_7_8_10_11_13_14
  have ga7_8_10_11_13_14_16 : a16 (n + 76) = q7 := (hag16 _ (by omega)).1.trans ga7_8_10_11_13_14
  have ga10_11_13_14_16 : a16 (n + 150) = q10 := (hag16 _ (by omega)).1.trans ga10_11_13_14
  have ga13_14_16 : a16 (n + 448) = q13 := (hag16 _ (by omega)).1.trans ga13_14
  have hsh2_3_4_5_6_7_8_9_10_11_12_13_14_15_16 : sh_6 Γ a16 E16 n (n + 1) := sk_6 (hag16 _ (by omega)) (fun j h1 h2 => hag16 j (by omega)) hsh2_3_4_5_6_7_8_9_10_11_12_13_14_15
  have hsh5_6_7_8_9_10_11_12_13_14_15_16 : sh_1 Γ a16 E16 (n + 2) (n + 3) := sk_1 (hag16 _ (by omega)) (fun j h1 h2 => hag16 j (by omega)) hsh5_6_7_8_9_10_11_12_13_14_15
  have hsh8_9_10_11_12_13_14_15_16 : sh_1 Γ a16 E16 (n + 76) (n + 77) := sk_1 (hag16 _ (by omega)) (fun j h1 h2 => hag16 j (by omega)) hsh8_9_10_11_12_13_14_15
  have hsh11_12_13_14_15_16 : sh_3 Γ a16 E16 (n + 150) (n + 151) := sk_3 (hag16 _ (by omega)) (fun j h1 h2 => hag16 j (by omega)) hsh11_12_13_14_15
  have hsh14_15_16 : sh_4 Γ a16 E16 (n + 448) (n + 449) := sk_4 (hag16 _ (by omega)) (fun j h1 h2 => hag16 j (by omega)) hsh14_15
  have hfr16 : ∀ j, j < n → a16 j = a j := fun j hj => (hag16 j (by omega)).1.trans (hfr14 j hj)
  have hfrE16 : ∀ j, j < n → j ≠ k0 → E16 j = E j := fun j hj hne => (hag16 j (by omega)).2.trans (hfrE15 j hj hne)
  refine t_putF (ci := 7) (k := k0) (j := 5) (fs1 := [.ref q1, .ref q4, .ref q7, .ref q10, .ref q13, .ref q16]) hx hb hts hown hG hS (by decide) (by omega) fa_0_1_2_4_5_7_8_10_11_13_14_16 gE15_16 (by decide) (ftX7_ok _ (lookup_mem ftX7_40)).2.2 rfl hin rfl rfl rfl (Nat.le_of_ble_eq_true rfl) rfl dX7_init_64 (fun E17 H17 locs17 hne17 gE17 hG hS => ?_)
  have gE16_17 : E17 (n + 453) = (.inl (Γ.2.1 1, 80, .inl fun _ => 0)) := (hne17 _ (by omega)).trans gE16
  have hsh2_3_4_5_6_7_8_9_10_11_12_13_14_15_16_17 : sh_6 Γ a16 E17 n (n + 1) := sk_6 ⟨rfl, hne17 _ (by omega)⟩ (fun j h1 h2 => ⟨rfl, hne17 j (by omega)⟩) hsh2_3_4_5_6_7_8_9_10_11_12_13_14_15_16
  have hsh5_6_7_8_9_10_11_12_13_14_15_16_17 : sh_1 Γ a16 E17 (n + 2) (n + 3) := sk_1 ⟨rfl, hne17 _ (by omega)⟩ (fun j h1 h2 => ⟨rfl, hne17 j (by omega)⟩) hsh5_6_7_8_9_10_11_12_13_14_15_16
  have hsh8_9_10_11_12_13_14_15_16_17 : sh_1 Γ a16 E17 (n + 76) (n + 77) := sk_1 ⟨rfl, hne17 _ (by omega)⟩ (fun j h1 h2 => ⟨rfl, hne17 j (by omega)⟩) hsh8_9_10_11_12_13_14_15_16
  have hsh11_12_13_14_15_16_17 : sh_3 Γ a16 E17 (n + 150) (n + 151) := sk_3 ⟨rfl, hne17 _ (by omega)⟩ (fun j h1 h2 => ⟨rfl, hne17 j (by omega)⟩) hsh11_12_13_14_15_16
  have hsh14_15_16_17 : sh_4 Γ a16 E17 (n + 448) (n + 449) := sk_4 ⟨rfl, hne17 _ (by omega)⟩ (fun j h1 h2 => ⟨rfl, hne17 j (by omega)⟩) hsh14_15_16
  have hfrE17 : ∀ j, j < n → j ≠ k0 → E17 j = E j := fun j hj hk => (hne17 j hk).trans (hfrE16 j hj hk)
  refine W.widen (k := 454) (n := 3717) (by decide) (by decide) ?_
  rw [← ga16, ← ga1_2_4_5_7_8_10_11_13_14_16, ← ga4_5_7_8_10_11_13_14_16, ← ga7_8_10_11_13_14_16, ← ga10_11_13_14_16, ← ga13_14_16] at gE17
  exact W.vret hx hb hr (fun t ht hW => ⟨⟨(a16, E17), rfl, ⟨hfr16, hfrE17, ⟨gE17, hsh2_3_4_5_6_7_8_9_10_11_12_13_14_15_16_17, hsh5_6_7_8_9_10_11_12_13_14_15_16_17, hsh8_9_10_11_12_13_14_15_16_17, hsh11_12_13_14_15_16_17, hsh14_15_16_17, gE16_17⟩⟩, by show GW Γ _ _ _ t t.heap; rw [ht]; exact gw_moved hW.alike hG⟩, hS.F ht⟩) hS.2.2 dX7_init_67
