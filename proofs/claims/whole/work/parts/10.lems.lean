section SL
variable {P : Par} {K : Option AV → Sto → Prop} {X : Nat → Nat → List AV → Sto → Nat → Prop} {N G : Nat → List AV → List AV → Sto → Nat → Prop} {cc : ByteArray} {stops : List Nat} {pc : Nat} {ls st r : List AV} {σ : Sto} {k n : Nat}
theorem wpn_s : wpn P K X cc G stops (n + 1) pc ls st σ k = if stops.contains pc = true then G pc ls st σ k else stepd P K X (wpn P K X cc G stops n) cc pc ls st σ k := rfl
theorem wpn_0 : wpn P K X cc G stops 0 pc ls st σ k = G pc ls st σ k := rfl
theorem stepd_ok {i : Instr} {len : Nat} (h : decode cc pc = .ok (i, len)) : stepd P K X N cc pc ls st σ k = stepf P K X N i len pc ls st σ k := by unfold stepd; rw [h]
theorem br_T {A B : Prop} : br True A B = A := by simp [br]
theorem br_F {A B : Prop} : br False A B = B := by simp [br]
theorem s1i_e {x : Int} {f : Int → List AV → Prop} : s1i (vi x :: r) f = f x r := rfl
theorem s2i_e {x y : Int} {f : Int → Int → List AV → Prop} : s2i (vi y :: vi x :: r) f = f x y r := rfl
theorem s1l_e {x : Int} {f : Int → List AV → Prop} : s1l (vl x :: r) f = f x r := rfl
theorem s2l_e {x y : Int} {f : Int → Int → List AV → Prop} : s2l (vl y :: vl x :: r) f = f x y r := rfl
theorem s1d_e {x : UInt64} {f : UInt64 → List AV → Prop} : s1d (vd x :: r) f = f x r := rfl
theorem s2d_e {x y : UInt64} {f : UInt64 → UInt64 → List AV → Prop} : s2d (vd y :: vd x :: r) f = f x y r := rfl
theorem s1r_e {c i : Nat} {f : Nat → Nat → List AV → Prop} : s1r (vr c i :: r) f = f c i r := rfl
theorem sir_e {x : Int} {c i : Nat} {f : Int → Nat → Nat → List AV → Prop} : sir (vi x :: vr c i :: r) f = f x c i r := rfl
theorem siir_e {x j : Int} {c i : Nat} {f : Int → Int → Nat → Nat → List AV → Prop} : siir (vi x :: vi j :: vr c i :: r) f = f x j c i r := rfl
theorem slir_e {x j : Int} {c i : Nat} {f : Int → Int → Nat → Nat → List AV → Prop} : slir (vl x :: vi j :: vr c i :: r) f = f x j c i r := rfl
theorem srir_e {vc v c i : Nat} {j : Int} {f : Nat → Nat → Int → Nat → Nat → List AV → Prop} : srir (vr vc v :: vi j :: vr c i :: r) f = f vc v j c i r := rfl
theorem c1_i {x : Int} : c1 (vi x) = True := rfl
theorem c1_r {c i : Nat} : c1 (vr c i) = True := rfl
theorem s1v_e {v : AV} {f : AV → List AV → Prop} : s1v (v :: r) f = (c1 v ∧ f v r) := rfl
theorem s2v_e {v w : AV} {f : AV → AV → List AV → Prop} : s2v (v :: w :: r) f = (c1 v ∧ c1 w ∧ f v w r) := rfl
theorem ldv_0 {v : AV} {f : AV → Prop} : ldv (v :: r) 0 f = f v := rfl
theorem ldv_s {v : AV} {j : Nat} {f : AV → Prop} : ldv (v :: r) (j + 1) f = ldv r j f := rfl
theorem ldx_0 {x : Int} {f : Int → Prop} : ldx (vi x :: r) 0 f = f x := rfl
theorem ldx_s {v : AV} {j : Nat} {f : Int → Prop} : ldx (v :: r) (j + 1) f = ldx r j f := rfl
theorem ldi_0 {x : Int} {f : AV → Prop} : ldi (vi x :: r) 0 f = f (vi x) := rfl
theorem ldi_s {v : AV} {j : Nat} {f : AV → Prop} : ldi (v :: r) (j + 1) f = ldi r j f := rfl
theorem ldr_0 {c i : Nat} {f : AV → Prop} : ldr (vr c i :: r) 0 f = f (vr c i) := rfl
theorem ldr_s {v : AV} {j : Nat} {f : AV → Prop} : ldr (v :: r) (j + 1) f = ldr r j f := rfl
theorem ldl_0 {x : Int} {f : AV → Prop} : ldl (vl x :: r) 0 f = f (vl x) := rfl
theorem ldl_s {v : AV} {j : Nat} {f : AV → Prop} : ldl (v :: r) (j + 1) f = ldl r j f := rfl
theorem ldd_0 {x : UInt64} {f : AV → Prop} : ldd (vd x :: r) 0 f = f (vd x) := rfl
theorem ldd_s {v : AV} {j : Nat} {f : AV → Prop} : ldd (v :: r) (j + 1) f = ldd r j f := rfl
theorem set_0 {v w : AV} : (v :: r).set 0 w = w :: r := rfl
theorem set_s {v w : AV} {j : Nat} : (v :: r).set (j + 1) w = v :: r.set j w := rfl
theorem len_c {v : AV} : (v :: r).length = r.length + 1 := rfl
theorem len_n : ([] : List AV).length = 0 := rfl
theorem nc2_0 : nc2 ls 0 = True := by simp [nc2]
theorem nc2_1i {x : Int} : nc2 (vi x :: r) 1 = True := by simp [nc2, vi]
theorem nc2_1r {c i : Nat} : nc2 (vr c i :: r) 1 = True := by simp [nc2, vr]
theorem nc2_1j : nc2 (vj :: r) 1 = True := by simp [nc2, vj]
theorem nc2_s {v : AV} {j : Nat} : nc2 (v :: r) (j + 2) = nc2 r (j + 1) := by simp [nc2]
theorem rt_e {v : AV} {f : AV → Prop} : rt [v] f = f v := rfl
theorem rcv_0 {a : List AV} : rcv 0 a = True := by simp [rcv]
theorem rcv_e {c i n : Nat} {a : List AV} : rcv (n + 1) (vr c i :: a) = (c = n ∧ i < cnt c ∧ c < 9) := by simp [rcv, vr]
theorem take_c {v : AV} {j : Nat} : List.take (j + 1) (v :: r) = v :: List.take j r := rfl
theorem take_z : List.take 0 r = ([] : List AV) := rfl
theorem drop_c {v : AV} {j : Nat} : List.drop (j + 1) (v :: r) = List.drop j r := rfl
theorem drop_z : List.drop 0 r = (r : List AV) := rfl
theorem rev_c {v : AV} : List.reverse (v :: r) = List.reverse r ++ [v] := List.reverse_cons
theorem rev_n : List.reverse ([] : List AV) = [] := rfl
theorem app_c {v : AV} : (v :: r) ++ st = v :: (r ++ st) := rfl
theorem app_n : ([] : List AV) ++ st = st := rfl
theorem tol_s {v : AV} : (some v).toList = [v] := rfl
theorem tol_n : (none : Option AV).toList = [] := rfl
theorem up_e {c i j : Nat} {x : Int} : up3 σ c i j x c i j = x := by simp [up3]
theorem lk_c {α : Type} {a b : Nat} {v : α} {t : List (Nat × α)} : List.lookup a ((b, v) :: t) = if a = b then some v else List.lookup a t := by
  rw [List.lookup_cons]; by_cases h : a = b
  · subst h; simp
  · have e : (a == b) = false := by simp [h]
    simp only [e, h, if_false]
end SL
theorem jk_at {pc t : Nat} {off : Int} {f : Nat → Prop} (h : (pc : Int) + off = (t : Int)) : jk pc off f = f t := by
  unfold jk; rw [h]; simp
theorem fg_0_0 {σ : Sto} {i : Nat} : fg σ 0 i 0 = vi (σ 0 i 0) := rfl
theorem fg_0_1 {σ : Sto} {i : Nat} : fg σ 0 i 1 = vi (σ 0 i 1) := rfl
theorem fg_0_2 {σ : Sto} {i : Nat} : fg σ 0 i 2 = vi (σ 0 i 2) := rfl
theorem fg_0_3 {σ : Sto} {i : Nat} : fg σ 0 i 3 = vi (σ 0 i 3) := rfl
theorem fg_0_4 {σ : Sto} {i : Nat} : fg σ 0 i 4 = vi (σ 0 i 4) := rfl
theorem fg_0_5 {σ : Sto} {i : Nat} : fg σ 0 i 5 = vi (σ 0 i 5) := rfl
theorem fg_1_0 {σ : Sto} {i : Nat} : fg σ 1 i 0 = vr 9 i := rfl
theorem fg_1_1 {σ : Sto} {i : Nat} : fg σ 1 i 1 = vi (σ 1 i 1) := rfl
theorem fg_1_2 {σ : Sto} {i : Nat} : fg σ 1 i 2 = vi (σ 1 i 2) := rfl
theorem fg_1_3 {σ : Sto} {i : Nat} : fg σ 1 i 3 = vi (σ 1 i 3) := rfl
theorem fg_1_4 {σ : Sto} {i : Nat} : fg σ 1 i 4 = vi (σ 1 i 4) := rfl
theorem fg_1_5 {σ : Sto} {i : Nat} : fg σ 1 i 5 = vi (σ 1 i 5) := rfl
theorem fg_1_6 {σ : Sto} {i : Nat} : fg σ 1 i 6 = vi (σ 1 i 6) := rfl
theorem fg_1_7 {σ : Sto} {i : Nat} : fg σ 1 i 7 = vi (σ 1 i 7) := rfl
theorem fg_2_0 {σ : Sto} {i : Nat} : fg σ 2 i 0 = vr 10 i := rfl
theorem fg_2_1 {σ : Sto} {i : Nat} : fg σ 2 i 1 = vr 0 i := rfl
theorem fg_2_2 {σ : Sto} {i : Nat} : fg σ 2 i 2 = vi (σ 2 i 2) := rfl
theorem fg_2_3 {σ : Sto} {i : Nat} : fg σ 2 i 3 = vi (σ 2 i 3) := rfl
theorem fg_2_4 {σ : Sto} {i : Nat} : fg σ 2 i 4 = vi (σ 2 i 4) := rfl
theorem fg_2_5 {σ : Sto} {i : Nat} : fg σ 2 i 5 = vi (σ 2 i 5) := rfl
theorem fg_3_0 {σ : Sto} {i : Nat} : fg σ 3 i 0 = vr 11 0 := rfl
theorem fg_3_1 {σ : Sto} {i : Nat} : fg σ 3 i 1 = vi (σ 3 i 1) := rfl
theorem fg_4_0 {σ : Sto} {i : Nat} : fg σ 4 i 0 = vr 12 0 := rfl
theorem fg_4_1 {σ : Sto} {i : Nat} : fg σ 4 i 1 = vr 12 1 := rfl
theorem fg_4_2 {σ : Sto} {i : Nat} : fg σ 4 i 2 = vr 0 144 := rfl
theorem fg_4_3 {σ : Sto} {i : Nat} : fg σ 4 i 3 = vr 5 0 := rfl
theorem fg_4_4 {σ : Sto} {i : Nat} : fg σ 4 i 4 = vi (σ 4 i 4) := rfl
theorem fg_4_5 {σ : Sto} {i : Nat} : fg σ 4 i 5 = vi (σ 4 i 5) := rfl
theorem fg_5_0 {σ : Sto} {i : Nat} : fg σ 5 i 0 = vi (σ 5 i 0) := rfl
theorem fg_5_1 {σ : Sto} {i : Nat} : fg σ 5 i 1 = vi (σ 5 i 1) := rfl
theorem fg_5_2 {σ : Sto} {i : Nat} : fg σ 5 i 2 = vi (σ 5 i 2) := rfl
theorem fg_5_3 {σ : Sto} {i : Nat} : fg σ 5 i 3 = vi (σ 5 i 3) := rfl
theorem fg_5_4 {σ : Sto} {i : Nat} : fg σ 5 i 4 = vi (σ 5 i 4) := rfl
theorem fg_5_5 {σ : Sto} {i : Nat} : fg σ 5 i 5 = vi (σ 5 i 5) := rfl
theorem fg_5_6 {σ : Sto} {i : Nat} : fg σ 5 i 6 = vi (σ 5 i 6) := rfl
theorem fg_6_0 {σ : Sto} {i : Nat} : fg σ 6 i 0 = vr 12 2 := rfl
theorem fg_6_1 {σ : Sto} {i : Nat} : fg σ 6 i 1 = vi (σ 6 i 1) := rfl
theorem fg_6_2 {σ : Sto} {i : Nat} : fg σ 6 i 2 = vi (σ 6 i 2) := rfl
theorem fg_6_3 {σ : Sto} {i : Nat} : fg σ 6 i 3 = vi (σ 6 i 3) := rfl
theorem fg_7_0 {σ : Sto} {i : Nat} : fg σ 7 i 0 = vr 6 0 := rfl
theorem fg_7_1 {σ : Sto} {i : Nat} : fg σ 7 i 1 = vr 1 0 := rfl
theorem fg_7_2 {σ : Sto} {i : Nat} : fg σ 7 i 2 = vr 1 1 := rfl
theorem fg_7_3 {σ : Sto} {i : Nat} : fg σ 7 i 3 = vr 3 0 := rfl
theorem fg_7_4 {σ : Sto} {i : Nat} : fg σ 7 i 4 = vr 4 0 := rfl
theorem fg_7_5 {σ : Sto} {i : Nat} : fg σ 7 i 5 = vr 13 0 := rfl
theorem fg_8_0 {σ : Sto} {i : Nat} : fg σ 8 i 0 = vr 12 3 := rfl
theorem fg_8_1 {σ : Sto} {i : Nat} : fg σ 8 i 1 = vr 12 4 := rfl
theorem fg_8_2 {σ : Sto} {i : Nat} : fg σ 8 i 2 = vr 12 5 := rfl
theorem fg_8_3 {σ : Sto} {i : Nat} : fg σ 8 i 3 = vi (σ 8 i 3) := rfl
theorem fg_8_4 {σ : Sto} {i : Nat} : fg σ 8 i 4 = vi (σ 8 i 4) := rfl
theorem fg_8_5 {σ : Sto} {i : Nat} : fg σ 8 i 5 = vr 12 6 := rfl
theorem fg_8_6 {σ : Sto} {i : Nat} : fg σ 8 i 6 = vr 12 7 := rfl
theorem fg_8_7 {σ : Sto} {i : Nat} : fg σ 8 i 7 = vr 12 8 := rfl
theorem fg_8_8 {σ : Sto} {i : Nat} : fg σ 8 i 8 = vr 12 9 := rfl
theorem fg_8_9 {σ : Sto} {i : Nat} : fg σ 8 i 9 = vr 12 10 := rfl
theorem fg_8_10 {σ : Sto} {i : Nat} : fg σ 8 i 10 = vi (σ 8 i 10) := rfl
theorem fg_8_11 {σ : Sto} {i : Nat} : fg σ 8 i 11 = vr 12 11 := rfl
theorem fg_8_12 {σ : Sto} {i : Nat} : fg σ 8 i 12 = vi (σ 8 i 12) := rfl
theorem fg_8_13 {σ : Sto} {i : Nat} : fg σ 8 i 13 = vi (σ 8 i 13) := rfl
theorem cnt_0 : cnt 0 = 145 := rfl
theorem cnt_1 : cnt 1 = 6 := rfl
theorem cnt_2 : cnt 2 = 144 := rfl
theorem cnt_3 : cnt 3 = 1 := rfl
theorem cnt_4 : cnt 4 = 1 := rfl
theorem cnt_5 : cnt 5 = 1 := rfl
theorem cnt_6 : cnt 6 = 1 := rfl
theorem cnt_7 : cnt 7 = 1 := rfl
theorem cnt_8 : cnt 8 = 1 := rfl
theorem cnt_9 : cnt 9 = 6 := rfl
theorem cnt_10 : cnt 10 = 144 := rfl
theorem cnt_11 : cnt 11 = 1 := rfl
theorem cnt_12 : cnt 12 = 12 := rfl
theorem cnt_13 : cnt 13 = 1 := rfl
theorem cnt_14 : cnt 14 = 1 := rfl
theorem alen_9 {i : Nat} : alen 9 i = 24 := rfl
theorem alen_10 {i : Nat} : alen 10 i = 10 := rfl
theorem alen_11 {i : Nat} : alen 11 i = 4 := rfl
theorem alen_13 {i : Nat} : alen 13 i = 80 := rfl
theorem alen_12_0 : alen 12 0 = 24 := rfl
theorem alen_12_1 : alen 12 1 = 24 := rfl
theorem alen_12_2 : alen 12 2 = 200 := rfl
theorem alen_12_3 : alen 12 3 = 463 := rfl
theorem alen_12_4 : alen 12 4 = 1852 := rfl
theorem alen_12_5 : alen 12 5 = 463 := rfl
theorem alen_12_6 : alen 12 6 = 24 := rfl
theorem alen_12_7 : alen 12 7 = 24 := rfl
theorem alen_12_8 : alen 12 8 = 24 := rfl
theorem alen_12_9 : alen 12 9 = 24 := rfl
theorem alen_12_10 : alen 12 10 = 24 := rfl
theorem alen_12_11 : alen 12 11 = 200 := rfl
theorem jo_at {pc t : Nat} {off : Int} (h : (pc : Int) + off = (t : Int)) : jo pc off = True := by
  unfold jo; rw [h]; simp
