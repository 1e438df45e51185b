theorem fcl_at {ci : Nat} (h : ci < 9) : vwCl[ci]? = some ((fcl ci).1, (fcl ci).2.1, nf ci) := by
  rcases (show ci = 0 ∨ ci = 1 ∨ ci = 2 ∨ ci = 3 ∨ ci = 4 ∨ ci = 5 ∨ ci = 6 ∨ ci = 7 ∨ ci = 8 by omega) with h | h | h | h | h | h | h | h | h <;> subst h <;> rfl
theorem in_u0 : ∀ w ∈ u_ws RX0 TX0 6, w ∈ lwA := by decide +kernel
theorem in_u1 : ∀ w ∈ u_ws RX1 TX1 8, w ∈ lwA := by decide +kernel
theorem in_u2 : ∀ w ∈ u_ws RX2 TX2 6, w ∈ lwA := by decide +kernel
theorem in_u3 : ∀ w ∈ u_ws RX3 TX3 2, w ∈ lwA := by decide +kernel
theorem in_u4 : ∀ w ∈ u_ws RX4 TX4 6, w ∈ lwA := by decide +kernel
theorem in_u5 : ∀ w ∈ u_ws RX5 TX5 7, w ∈ lwA := by decide +kernel
theorem in_u6 : ∀ w ∈ u_ws RX6 TX6 4, w ∈ lwA := by decide +kernel
theorem in_u7 : ∀ w ∈ u_ws RX7 TX7 6, w ∈ lwA := by decide +kernel
theorem in_u8 : ∀ w ∈ u_ws RX8 TX8 14, w ∈ lwA := by decide +kernel
theorem fcl_in {ci : Nat} (h : ci < 9) : ∀ w ∈ u_ws (fcl ci).1 (fcl ci).2.1 (nf ci), w ∈ lwA := by
  rcases (show ci = 0 ∨ ci = 1 ∨ ci = 2 ∨ ci = 3 ∨ ci = 4 ∨ ci = 5 ∨ ci = 6 ∨ ci = 7 ∨ ci = 8 by omega) with h | h | h | h | h | h | h | h | h <;> subst h
  · exact in_u0
  · exact in_u1
  · exact in_u2
  · exact in_u3
  · exact in_u4
  · exact in_u5
  · exact in_u6
  · exact in_u7
  · exact in_u8
def fty (ci k : Nat) : FieldType := match ci with
  | 0 => tyX0 k | 1 => tyX1 k | 2 => tyX2 k | 3 => tyX3 k | 4 => tyX4 k | 5 => tyX5 k | 6 => tyX6 k | 7 => tyX7 k | _ => tyX8 k
theorem fcl_ty {ci : Nat} (h : ci < 9) : ∀ k, k < nf ci → parseFieldDescriptor ((fcl ci).2.1 k).2.2.1 = some (fty ci k) := by
  rcases (show ci = 0 ∨ ci = 1 ∨ ci = 2 ∨ ci = 3 ∨ ci = 4 ∨ ci = 5 ∨ ci = 6 ∨ ci = 7 ∨ ci = 8 by omega) with h | h | h | h | h | h | h | h | h <;> subst h
  · exact tyX0_ok
  · exact tyX1_ok
  · exact tyX2_ok
  · exact tyX3_ok
  · exact tyX4_ok
  · exact tyX5_ok
  · exact tyX6_ok
  · exact tyX7_ok
  · exact tyX8_ok
theorem fcl_nm {ci : Nat} (h : ci < 9) : ∀ a, a < nf ci → ∀ b, b < nf ci → a ≠ b → ((fcl ci).2.1 a).2.1 ≠ ((fcl ci).2.1 b).2.1 := by
  rcases (show ci = 0 ∨ ci = 1 ∨ ci = 2 ∨ ci = 3 ∨ ci = 4 ∨ ci = 5 ∨ ci = 6 ∨ ci = 7 ∨ ci = 8 by omega) with h | h | h | h | h | h | h | h | h <;> subst h
  · exact nmX0
  · exact nmX1
  · exact nmX2
  · exact nmX3
  · exact nmX4
  · exact nmX5
  · exact nmX6
  · exact nmX7
  · exact nmX8
theorem fk_tab : ∀ ci, ci < 9 → ∀ k, k < nf ci → (fk ci k = 0 → fty ci k = .int) ∧ (fk ci k = 1 → fty ci k = .boolean) ∧ (fk ci k ≠ 2 → ((fcl ci).2.1 k).2.2.2 = false) ∧ fk ci k ≤ 2 := by decide +kernel
theorem nar_b {x : Int} (h : bitOK x) : narrow .boolean (.int (Int32.ofInt x)) = .int (Int32.ofInt x) ∧ fits .boolean (.int (Int32.ofInt x)) = true := by
  rcases h with h | h <;> subst h <;> exact ⟨rfl, rfl⟩
theorem nar_i (x : Int32) : narrow .int (.int x) = .int x ∧ fits .int (.int x) = true := ⟨rfl, rfl⟩
theorem s1i_v {st : List AV} {f : Int → List AV → Prop} (h : s1i st f) : ∃ x r, st = vi x :: r ∧ f x r := by
  unfold s1i at h; split at h
  · exact ⟨_, _, rfl, h⟩
  · exact h.elim
theorem s2i_v {st : List AV} {f : Int → Int → List AV → Prop} (h : s2i st f) : ∃ x y r, st = vi y :: vi x :: r ∧ f x y r := by
  unfold s2i at h; split at h
  · exact ⟨_, _, _, rfl, h⟩
  · exact h.elim
theorem s1l_v {st : List AV} {f : Int → List AV → Prop} (h : s1l st f) : ∃ x r, st = vl x :: r ∧ f x r := by
  unfold s1l at h; split at h
  · exact ⟨_, _, rfl, h⟩
  · exact h.elim
theorem s2l_v {st : List AV} {f : Int → Int → List AV → Prop} (h : s2l st f) : ∃ x y r, st = vl y :: vl x :: r ∧ f x y r := by
  unfold s2l at h; split at h
  · exact ⟨_, _, _, rfl, h⟩
  · exact h.elim
theorem s1d_v {st : List AV} {f : UInt64 → List AV → Prop} (h : s1d st f) : ∃ x r, st = vd x :: r ∧ f x r := by
  unfold s1d at h; split at h
  · exact ⟨_, _, rfl, h⟩
  · exact h.elim
theorem s2d_v {st : List AV} {f : UInt64 → UInt64 → List AV → Prop} (h : s2d st f) : ∃ x y r, st = vd y :: vd x :: r ∧ f x y r := by
  unfold s2d at h; split at h
  · exact ⟨_, _, _, rfl, h⟩
  · exact h.elim
theorem s1r_v {st : List AV} {f : Nat → Nat → List AV → Prop} (h : s1r st f) : ∃ c i r, st = vr c i :: r ∧ f c i r := by
  unfold s1r at h; split at h
  · exact ⟨_, _, _, rfl, h⟩
  · exact h.elim
theorem sir_v {st : List AV} {f : Int → Nat → Nat → List AV → Prop} (h : sir st f) : ∃ x c i r, st = vi x :: vr c i :: r ∧ f x c i r := by
  unfold sir at h; split at h
  · exact ⟨_, _, _, _, rfl, h⟩
  · exact h.elim
theorem siir_v {st : List AV} {f : Int → Int → Nat → Nat → List AV → Prop} (h : siir st f) : ∃ x j c i r, st = vi x :: vi j :: vr c i :: r ∧ f x j c i r := by
  unfold siir at h; split at h
  · exact ⟨_, _, _, _, _, rfl, h⟩
  · exact h.elim
theorem slir_v {st : List AV} {f : Int → Int → Nat → Nat → List AV → Prop} (h : slir st f) : ∃ x j c i r, st = vl x :: vi j :: vr c i :: r ∧ f x j c i r := by
  unfold slir at h; split at h
  · exact ⟨_, _, _, _, _, rfl, h⟩
  · exact h.elim
theorem srir_v {st : List AV} {f : Nat → Nat → Int → Nat → Nat → List AV → Prop} (h : srir st f) : ∃ vc v j c i r, st = vr vc v :: vi j :: vr c i :: r ∧ f vc v j c i r := by
  unfold srir at h; split at h
  · exact ⟨_, _, _, _, _, _, rfl, h⟩
  · exact h.elim
theorem s1v_v {st : List AV} {f : AV → List AV → Prop} (h : s1v st f) : ∃ v r, st = v :: r ∧ c1 v ∧ f v r := by
  unfold s1v at h; split at h
  · exact ⟨_, _, rfl, h⟩
  · exact h.elim
theorem s2v_v {st : List AV} {f : AV → AV → List AV → Prop} (h : s2v st f) : ∃ v w r, st = v :: w :: r ∧ c1 v ∧ c1 w ∧ f v w r := by
  unfold s2v at h; split at h
  · exact ⟨_, _, _, rfl, h⟩
  · exact h.elim
theorem c1_cat {Γ : Ga} {v : AV} (h : c1 v) : (cv Γ v).category = 1 := by
  rcases v with x | x | x | x | x <;> first | rfl | exact absurd h id
theorem ldv_v {ls : List AV} {k : Nat} {f : AV → Prop} (h : ldv ls k f) : ∃ v, ls[k]? = some v ∧ f v := by
  unfold ldv at h; split at h
  · exact ⟨_, by assumption, h⟩
  · exact h.elim
theorem ldi_v {ls : List AV} {k : Nat} {f : AV → Prop} (h : ldi ls k f) : ∃ x, ls[k]? = some (vi x) ∧ f (vi x) := by
  obtain ⟨v, h1, h2⟩ := ldv_v h
  rcases v with x | x | x | x | x <;> first | exact ⟨x, h1, h2⟩ | exact absurd h2 id
theorem ldx_v {ls : List AV} {k : Nat} {f : Int → Prop} (h : ldx ls k f) : ∃ x, ls[k]? = some (vi x) ∧ f x := by
  unfold ldx at h; split at h
  · exact ⟨_, by assumption, h⟩
  · exact h.elim
theorem ldl_v {ls : List AV} {k : Nat} {f : AV → Prop} (h : ldl ls k f) : ∃ x, ls[k]? = some (vl x) ∧ f (vl x) := by
  obtain ⟨v, h1, h2⟩ := ldv_v h
  rcases v with x | x | x | x | x <;> first | exact ⟨x, h1, h2⟩ | exact absurd h2 id
theorem ldd_v {ls : List AV} {k : Nat} {f : AV → Prop} (h : ldd ls k f) : ∃ x, ls[k]? = some (vd x) ∧ f (vd x) := by
  obtain ⟨v, h1, h2⟩ := ldv_v h
  rcases v with x | x | x | x | x <;> first | exact ⟨x, h1, h2⟩ | exact absurd h2 id
theorem ldr_v {ls : List AV} {k : Nat} {f : AV → Prop} (h : ldr ls k f) : ∃ c i, ls[k]? = some (vr c i) ∧ f (vr c i) := by
  obtain ⟨v, h1, h2⟩ := ldv_v h
  rcases v with x | x | x | x | x <;> first | exact ⟨x.1, x.2, h1, h2⟩ | exact absurd h2 id
theorem rt_v {st : List AV} {f : AV → Prop} (h : rt st f) : ∃ v, st = [v] ∧ f v := by
  unfold rt at h; split at h
  · exact ⟨_, rfl, h⟩
  · exact h.elim
