section SFL
variable {P : Par} {K : Option AV → Sto → Prop} {X : Nat → Nat → List AV → Sto → Nat → Prop} {N : Nat → List AV → List AV → Sto → Nat → Prop} {pc : Nat} {ls st r : List AV} {σ : Sto} {k : Nat}
theorem sf_iconst {n : Int} : stepf P K X N (.iconst n) 1 pc ls st σ k = (N (pc + 1) ls (vi n :: st) σ k) := propext ⟨fun h => h.2, fun h => ⟨rfl, h⟩⟩
theorem sf_bipush {n : Int} : stepf P K X N (.bipush n) 2 pc ls st σ k = (-128 ≤ n ∧ n < 128 ∧ N (pc + 2) ls (vi n :: st) σ k) := propext ⟨fun h => h.2, fun h => ⟨rfl, h⟩⟩
theorem sf_sipush {n : Int} : stepf P K X N (.sipush n) 3 pc ls st σ k = (-32768 ≤ n ∧ n < 32768 ∧ N (pc + 3) ls (vi n :: st) σ k) := propext ⟨fun h => h.2, fun h => ⟨rfl, h⟩⟩
theorem sf_lconst {n : Fin 2} : stepf P K X N (.lconst n) 1 pc ls st σ k = (N (pc + 1) ls (vl (n : Nat) :: st) σ k) := propext ⟨fun h => h.2, fun h => ⟨rfl, h⟩⟩
theorem sf_iload_n0 : stepf P K X N (.iload_n 0) 1 pc ls st σ k = (ldi ls 0 fun v => N (pc + 1) ls (v :: st) σ k) := propext ⟨fun h => h.2, fun h => ⟨rfl, h⟩⟩
theorem sf_iload_n1 : stepf P K X N (.iload_n 1) 1 pc ls st σ k = (ldi ls 1 fun v => N (pc + 1) ls (v :: st) σ k) := propext ⟨fun h => h.2, fun h => ⟨rfl, h⟩⟩
theorem sf_iload_n2 : stepf P K X N (.iload_n 2) 1 pc ls st σ k = (ldi ls 2 fun v => N (pc + 1) ls (v :: st) σ k) := propext ⟨fun h => h.2, fun h => ⟨rfl, h⟩⟩
theorem sf_iload_n3 : stepf P K X N (.iload_n 3) 1 pc ls st σ k = (ldi ls 3 fun v => N (pc + 1) ls (v :: st) σ k) := propext ⟨fun h => h.2, fun h => ⟨rfl, h⟩⟩
theorem sf_iload {n : Nat} : stepf P K X N (.iload n) 2 pc ls st σ k = (ldi ls n fun v => N (pc + 2) ls (v :: st) σ k) := propext ⟨fun h => h.2, fun h => ⟨rfl, h⟩⟩
theorem sf_lload_n0 : stepf P K X N (.lload_n 0) 1 pc ls st σ k = (ldl ls 0 fun v => N (pc + 1) ls (v :: st) σ k) := propext ⟨fun h => h.2, fun h => ⟨rfl, h⟩⟩
theorem sf_lload_n1 : stepf P K X N (.lload_n 1) 1 pc ls st σ k = (ldl ls 1 fun v => N (pc + 1) ls (v :: st) σ k) := propext ⟨fun h => h.2, fun h => ⟨rfl, h⟩⟩
theorem sf_lload_n2 : stepf P K X N (.lload_n 2) 1 pc ls st σ k = (ldl ls 2 fun v => N (pc + 1) ls (v :: st) σ k) := propext ⟨fun h => h.2, fun h => ⟨rfl, h⟩⟩
theorem sf_lload_n3 : stepf P K X N (.lload_n 3) 1 pc ls st σ k = (ldl ls 3 fun v => N (pc + 1) ls (v :: st) σ k) := propext ⟨fun h => h.2, fun h => ⟨rfl, h⟩⟩
theorem sf_lload {n : Nat} : stepf P K X N (.lload n) 2 pc ls st σ k = (ldl ls n fun v => N (pc + 2) ls (v :: st) σ k) := propext ⟨fun h => h.2, fun h => ⟨rfl, h⟩⟩
theorem sf_dload {n : Nat} : stepf P K X N (.dload n) 2 pc ls st σ k = (ldd ls n fun v => N (pc + 2) ls (v :: st) σ k) := propext ⟨fun h => h.2, fun h => ⟨rfl, h⟩⟩
theorem sf_aload_n0 : stepf P K X N (.aload_n 0) 1 pc ls st σ k = (ldr ls 0 fun v => N (pc + 1) ls (v :: st) σ k) := propext ⟨fun h => h.2, fun h => ⟨rfl, h⟩⟩
theorem sf_aload_n1 : stepf P K X N (.aload_n 1) 1 pc ls st σ k = (ldr ls 1 fun v => N (pc + 1) ls (v :: st) σ k) := propext ⟨fun h => h.2, fun h => ⟨rfl, h⟩⟩
theorem sf_aload_n2 : stepf P K X N (.aload_n 2) 1 pc ls st σ k = (ldr ls 2 fun v => N (pc + 1) ls (v :: st) σ k) := propext ⟨fun h => h.2, fun h => ⟨rfl, h⟩⟩
theorem sf_aload_n3 : stepf P K X N (.aload_n 3) 1 pc ls st σ k = (ldr ls 3 fun v => N (pc + 1) ls (v :: st) σ k) := propext ⟨fun h => h.2, fun h => ⟨rfl, h⟩⟩
theorem sf_aload {n : Nat} : stepf P K X N (.aload n) 2 pc ls st σ k = (ldr ls n fun v => N (pc + 2) ls (v :: st) σ k) := propext ⟨fun h => h.2, fun h => ⟨rfl, h⟩⟩
theorem sf_istore_n0 : stepf P K X N (.istore_n 0) 1 pc ls st σ k = (s1i st fun x r => st1 ls 0 (vi x) fun ls => N (pc + 1) ls r σ k) := propext ⟨fun h => h.2, fun h => ⟨rfl, h⟩⟩
theorem sf_istore_n1 : stepf P K X N (.istore_n 1) 1 pc ls st σ k = (s1i st fun x r => st1 ls 1 (vi x) fun ls => N (pc + 1) ls r σ k) := propext ⟨fun h => h.2, fun h => ⟨rfl, h⟩⟩
theorem sf_istore_n2 : stepf P K X N (.istore_n 2) 1 pc ls st σ k = (s1i st fun x r => st1 ls 2 (vi x) fun ls => N (pc + 1) ls r σ k) := propext ⟨fun h => h.2, fun h => ⟨rfl, h⟩⟩
theorem sf_istore_n3 : stepf P K X N (.istore_n 3) 1 pc ls st σ k = (s1i st fun x r => st1 ls 3 (vi x) fun ls => N (pc + 1) ls r σ k) := propext ⟨fun h => h.2, fun h => ⟨rfl, h⟩⟩
theorem sf_istore {n : Nat} : stepf P K X N (.istore n) 2 pc ls st σ k = (s1i st fun x r => st1 ls n (vi x) fun ls => N (pc + 2) ls r σ k) := propext ⟨fun h => h.2, fun h => ⟨rfl, h⟩⟩
theorem sf_astore_n0 : stepf P K X N (.astore_n 0) 1 pc ls st σ k = (s1r st fun c i r => st1 ls 0 (vr c i) fun ls => N (pc + 1) ls r σ k) := propext ⟨fun h => h.2, fun h => ⟨rfl, h⟩⟩
theorem sf_astore_n1 : stepf P K X N (.astore_n 1) 1 pc ls st σ k = (s1r st fun c i r => st1 ls 1 (vr c i) fun ls => N (pc + 1) ls r σ k) := propext ⟨fun h => h.2, fun h => ⟨rfl, h⟩⟩
theorem sf_astore_n2 : stepf P K X N (.astore_n 2) 1 pc ls st σ k = (s1r st fun c i r => st1 ls 2 (vr c i) fun ls => N (pc + 1) ls r σ k) := propext ⟨fun h => h.2, fun h => ⟨rfl, h⟩⟩
theorem sf_astore_n3 : stepf P K X N (.astore_n 3) 1 pc ls st σ k = (s1r st fun c i r => st1 ls 3 (vr c i) fun ls => N (pc + 1) ls r σ k) := propext ⟨fun h => h.2, fun h => ⟨rfl, h⟩⟩
theorem sf_astore {n : Nat} : stepf P K X N (.astore n) 2 pc ls st σ k = (s1r st fun c i r => st1 ls n (vr c i) fun ls => N (pc + 2) ls r σ k) := propext ⟨fun h => h.2, fun h => ⟨rfl, h⟩⟩
theorem sf_lstore_n0 : stepf P K X N (.lstore_n 0) 1 pc ls st σ k = (s1l st fun x r => st2 ls 0 (vl x) fun ls => N (pc + 1) ls r σ k) := propext ⟨fun h => h.2, fun h => ⟨rfl, h⟩⟩
theorem sf_lstore_n1 : stepf P K X N (.lstore_n 1) 1 pc ls st σ k = (s1l st fun x r => st2 ls 1 (vl x) fun ls => N (pc + 1) ls r σ k) := propext ⟨fun h => h.2, fun h => ⟨rfl, h⟩⟩
theorem sf_lstore_n2 : stepf P K X N (.lstore_n 2) 1 pc ls st σ k = (s1l st fun x r => st2 ls 2 (vl x) fun ls => N (pc + 1) ls r σ k) := propext ⟨fun h => h.2, fun h => ⟨rfl, h⟩⟩
theorem sf_lstore_n3 : stepf P K X N (.lstore_n 3) 1 pc ls st σ k = (s1l st fun x r => st2 ls 3 (vl x) fun ls => N (pc + 1) ls r σ k) := propext ⟨fun h => h.2, fun h => ⟨rfl, h⟩⟩
theorem sf_lstore {n : Nat} : stepf P K X N (.lstore n) 2 pc ls st σ k = (s1l st fun x r => st2 ls n (vl x) fun ls => N (pc + 2) ls r σ k) := propext ⟨fun h => h.2, fun h => ⟨rfl, h⟩⟩
theorem sf_dstore {n : Nat} : stepf P K X N (.dstore n) 2 pc ls st σ k = (s1d st fun x r => st2 ls n (vd x) fun ls => N (pc + 2) ls r σ k) := propext ⟨fun h => h.2, fun h => ⟨rfl, h⟩⟩
theorem sf_iinc {n : Nat} {d : Int} : stepf P K X N (.iinc n d) 3 pc ls st σ k = (ldx ls n fun x => st1 ls n (vi (x + d)) fun ls => N (pc + 3) ls st σ k) := propext ⟨fun h => h.2, fun h => ⟨rfl, h⟩⟩
theorem sf_iadd : stepf P K X N (.iadd) 1 pc ls st σ k = (s2i st fun x y r => N (pc + 1) ls (vi (x + y) :: r) σ k) := propext ⟨fun h => h.2, fun h => ⟨rfl, h⟩⟩
theorem sf_isub : stepf P K X N (.isub) 1 pc ls st σ k = (s2i st fun x y r => N (pc + 1) ls (vi (x - y) :: r) σ k) := propext ⟨fun h => h.2, fun h => ⟨rfl, h⟩⟩
theorem sf_imul : stepf P K X N (.imul) 1 pc ls st σ k = (s2i st fun x y r => N (pc + 1) ls (vi (x * y) :: r) σ k) := propext ⟨fun h => h.2, fun h => ⟨rfl, h⟩⟩
theorem sf_ineg : stepf P K X N (.ineg) 1 pc ls st σ k = (s1i st fun x r => N (pc + 1) ls (vi (-x) :: r) σ k) := propext ⟨fun h => h.2, fun h => ⟨rfl, h⟩⟩
theorem sf_idiv : stepf P K X N (.idiv) 1 pc ls st σ k = (s2i st fun x y r => 0 ≤ x ∧ inR x ∧ 0 < y ∧ inR y ∧ N (pc + 1) ls (vi (x / y) :: r) σ k) := propext ⟨fun h => h.2, fun h => ⟨rfl, h⟩⟩
theorem sf_irem : stepf P K X N (.irem) 1 pc ls st σ k = (s2i st fun x y r => 0 ≤ x ∧ inR x ∧ 0 < y ∧ inR y ∧ N (pc + 1) ls (vi (x % y) :: r) σ k) := propext ⟨fun h => h.2, fun h => ⟨rfl, h⟩⟩
theorem sf_iand : stepf P K X N (.iand) 1 pc ls st σ k = (s2i st fun _ y r => y = 31 ∧ ∀ z, 0 ≤ z → z < 32 → N (pc + 1) ls (vi z :: r) σ k) := propext ⟨fun h => h.2, fun h => ⟨rfl, h⟩⟩
theorem sf_i2l : stepf P K X N (.i2l) 1 pc ls st σ k = (s1i st fun x r => inR x ∧ N (pc + 1) ls (vl x :: r) σ k) := propext ⟨fun h => h.2, fun h => ⟨rfl, h⟩⟩
theorem sf_ladd : stepf P K X N (.ladd) 1 pc ls st σ k = (s2l st fun x y r => N (pc + 1) ls (vl (x + y) :: r) σ k) := propext ⟨fun h => h.2, fun h => ⟨rfl, h⟩⟩
theorem sf_lsub : stepf P K X N (.lsub) 1 pc ls st σ k = (s2l st fun x y r => N (pc + 1) ls (vl (x - y) :: r) σ k) := propext ⟨fun h => h.2, fun h => ⟨rfl, h⟩⟩
theorem sf_lmul : stepf P K X N (.lmul) 1 pc ls st σ k = (s2l st fun x y r => N (pc + 1) ls (vl (x * y) :: r) σ k) := propext ⟨fun h => h.2, fun h => ⟨rfl, h⟩⟩
theorem sf_lcmp : stepf P K X N (.lcmp) 1 pc ls st σ k = (s2l st fun x y r => br (x = y) (N (pc + 1) ls (vi 0 :: r) σ k) (inL x ∧ inL y ∧ br (x < y) (N (pc + 1) ls (vi (-1) :: r) σ k) (N (pc + 1) ls (vi 1 :: r) σ k))) := propext ⟨fun h => h.2, fun h => ⟨rfl, h⟩⟩
theorem sf_i2d : stepf P K X N (.i2d) 1 pc ls st σ k = (s1i st fun x r => N (pc + 1) ls (vd (FP.i2d (Int32.ofInt x)) :: r) σ k) := propext ⟨fun h => h.2, fun h => ⟨rfl, h⟩⟩
theorem sf_ddiv : stepf P K X N (.ddiv) 1 pc ls st σ k = (s2d st fun x y r => vf_n64 (FP.ddiv x y) ∧ N (pc + 1) ls (vd (FP.ddiv x y) :: r) σ k) := propext ⟨fun h => h.2, fun h => ⟨rfl, h⟩⟩
theorem sf_dcmp {op : CmpOp} : stepf P K X N (.dcmp op) 1 pc ls st σ k = (s2d st fun x y r => N (pc + 1) ls (vi (Op.cmpValue (FP.dcmp x y) op).toInt :: r) σ k) := propext ⟨fun h => h.2, fun h => ⟨rfl, h⟩⟩
theorem sf_dup : stepf P K X N (.dup) 1 pc ls st σ k = (s1v st fun v r => N (pc + 1) ls (v :: v :: r) σ k) := propext ⟨fun h => h.2, fun h => ⟨rfl, h⟩⟩
theorem sf_dup2 : stepf P K X N (.dup2) 1 pc ls st σ k = (s2v st fun v w r => N (pc + 1) ls (v :: w :: v :: w :: r) σ k) := propext ⟨fun h => h.2, fun h => ⟨rfl, h⟩⟩
theorem sf_pop : stepf P K X N (.pop) 1 pc ls st σ k = (s1v st fun _ r => N (pc + 1) ls r σ k) := propext ⟨fun h => h.2, fun h => ⟨rfl, h⟩⟩
theorem sf_goto {off : Int} : stepf P K X N (.goto off) 3 pc ls st σ k = (jk pc off fun t => N t ls st σ k) := propext ⟨fun h => h.2, fun h => ⟨rfl, h⟩⟩
theorem sf_ifCond_eq {off : Int} : stepf P K X N (.ifCond .eq off) 3 pc ls st σ k = (jo pc off ∧ s1i st fun x r => inR x ∧ br (x = 0) (jk pc off fun t => N t ls r σ k) (N (pc + 3) ls r σ k)) := propext ⟨fun h => h.2, fun h => ⟨rfl, h⟩⟩
theorem sf_ifCond_ne {off : Int} : stepf P K X N (.ifCond .ne off) 3 pc ls st σ k = (jo pc off ∧ s1i st fun x r => inR x ∧ br (x = 0) (N (pc + 3) ls r σ k) (jk pc off fun t => N t ls r σ k)) := propext ⟨fun h => h.2, fun h => ⟨rfl, h⟩⟩
theorem sf_ifCond_lt {off : Int} : stepf P K X N (.ifCond .lt off) 3 pc ls st σ k = (jo pc off ∧ s1i st fun x r => inR x ∧ br (x < 0) (jk pc off fun t => N t ls r σ k) (N (pc + 3) ls r σ k)) := propext ⟨fun h => h.2, fun h => ⟨rfl, h⟩⟩
theorem sf_ifCond_ge {off : Int} : stepf P K X N (.ifCond .ge off) 3 pc ls st σ k = (jo pc off ∧ s1i st fun x r => inR x ∧ br (x < 0) (N (pc + 3) ls r σ k) (jk pc off fun t => N t ls r σ k)) := propext ⟨fun h => h.2, fun h => ⟨rfl, h⟩⟩
theorem sf_ifCond_gt {off : Int} : stepf P K X N (.ifCond .gt off) 3 pc ls st σ k = (jo pc off ∧ s1i st fun x r => inR x ∧ br (0 < x) (jk pc off fun t => N t ls r σ k) (N (pc + 3) ls r σ k)) := propext ⟨fun h => h.2, fun h => ⟨rfl, h⟩⟩
theorem sf_ifCond_le {off : Int} : stepf P K X N (.ifCond .le off) 3 pc ls st σ k = (jo pc off ∧ s1i st fun x r => inR x ∧ br (0 < x) (N (pc + 3) ls r σ k) (jk pc off fun t => N t ls r σ k)) := propext ⟨fun h => h.2, fun h => ⟨rfl, h⟩⟩
theorem sf_if_icmp_eq {off : Int} : stepf P K X N (.if_icmp .eq off) 3 pc ls st σ k = (jo pc off ∧ s2i st fun x y r => inR x ∧ inR y ∧ br (x = y) (jk pc off fun t => N t ls r σ k) (N (pc + 3) ls r σ k)) := propext ⟨fun h => h.2, fun h => ⟨rfl, h⟩⟩
theorem sf_if_icmp_ne {off : Int} : stepf P K X N (.if_icmp .ne off) 3 pc ls st σ k = (jo pc off ∧ s2i st fun x y r => inR x ∧ inR y ∧ br (x = y) (N (pc + 3) ls r σ k) (jk pc off fun t => N t ls r σ k)) := propext ⟨fun h => h.2, fun h => ⟨rfl, h⟩⟩
theorem sf_if_icmp_lt {off : Int} : stepf P K X N (.if_icmp .lt off) 3 pc ls st σ k = (jo pc off ∧ s2i st fun x y r => inR x ∧ inR y ∧ br (x < y) (jk pc off fun t => N t ls r σ k) (N (pc + 3) ls r σ k)) := propext ⟨fun h => h.2, fun h => ⟨rfl, h⟩⟩
theorem sf_if_icmp_ge {off : Int} : stepf P K X N (.if_icmp .ge off) 3 pc ls st σ k = (jo pc off ∧ s2i st fun x y r => inR x ∧ inR y ∧ br (x < y) (N (pc + 3) ls r σ k) (jk pc off fun t => N t ls r σ k)) := propext ⟨fun h => h.2, fun h => ⟨rfl, h⟩⟩
theorem sf_if_icmp_gt {off : Int} : stepf P K X N (.if_icmp .gt off) 3 pc ls st σ k = (jo pc off ∧ s2i st fun x y r => inR x ∧ inR y ∧ br (y < x) (jk pc off fun t => N t ls r σ k) (N (pc + 3) ls r σ k)) := propext ⟨fun h => h.2, fun h => ⟨rfl, h⟩⟩
theorem sf_if_icmp_le {off : Int} : stepf P K X N (.if_icmp .le off) 3 pc ls st σ k = (jo pc off ∧ s2i st fun x y r => inR x ∧ inR y ∧ br (y < x) (N (pc + 3) ls r σ k) (jk pc off fun t => N t ls r σ k)) := propext ⟨fun h => h.2, fun h => ⟨rfl, h⟩⟩
theorem sf_tableswitch {d : Int} {lo : Int} {hi : Int} {offs : Array Int} {len : Nat} : stepf P K X N (.tableswitch d lo hi offs) len pc ls st σ k = (s1i st fun x r => inR x ∧ (offs.toList.length : Int) = hi - lo + 1 ∧ tsw pc d (fun t => N t ls r σ k) x lo offs.toList) := rfl
theorem sf_lookupswitch {d : Int} {ps : Array (Int × Int)} {len : Nat} : stepf P K X N (.lookupswitch d ps) len pc ls st σ k = (s1i st fun x r => inR x ∧ ((ps.toList.zip (ps.toList.drop 1)).all fun (a, next) => a.1 < next.1) = true ∧ lsw pc d (fun t => N t ls r σ k) x ps.toList) := rfl
theorem sf_getfield {idx : Nat} {q : Nat × Nat} (h : List.lookup idx P.1 = some q) : stepf P K X N (.getfield idx) 3 pc ls st σ k = (s1r st fun c i r => c = q.1 ∧ i < cnt q.1 ∧ N (pc + 3) ls (fg σ q.1 i q.2 :: r) σ k) := by
  unfold stepf; simp only [h, true_and]
theorem sf_putfield {idx : Nat} {q : Nat × Nat} (h : List.lookup idx P.1 = some q) : stepf P K X N (.putfield idx) 3 pc ls st σ k = (sir st fun x c i r => c = q.1 ∧ i < cnt q.1 ∧ fk q.1 q.2 ≠ 2 ∧ (fk q.1 q.2 = 0 ∨ bitOK x) ∧ N (pc + 3) ls r (up3 σ q.1 i q.2 x) k) := by
  unfold stepf; simp only [h, true_and]
theorem sf_iaload : stepf P K X N (.iaload) 1 pc ls st σ k = (sir st fun j c i r => br (c = 20) (scrd P j fun v => N (pc + 1) ls (v :: r) σ k) ((c = 10 ∨ c = 12) ∧ rd c i j σ fun v => N (pc + 1) ls (v :: r) σ k)) := propext ⟨fun h => h.2, fun h => ⟨rfl, h⟩⟩
theorem sf_baload : stepf P K X N (.baload) 1 pc ls st σ k = (sir st fun j c i r => c = 13 ∧ rd c i j σ fun v => N (pc + 1) ls (v :: r) σ k) := propext ⟨fun h => h.2, fun h => ⟨rfl, h⟩⟩
theorem sf_laload : stepf P K X N (.laload) 1 pc ls st σ k = (sir st fun j c i r => c = 14 ∧ i = 0 ∧ j = 0 ∧ N (pc + 1) ls (vl (σ 14 0 0) :: r) σ k) := propext ⟨fun h => h.2, fun h => ⟨rfl, h⟩⟩
theorem sf_aaload : stepf P K X N (.aaload) 1 pc ls st σ k = (sir st fun j c i r => (c = 9 ∨ c = 11) ∧ i < cnt c ∧ 0 ≤ j ∧ j < alen c i ∧ N (pc + 1) ls (vr (if c = 9 then 2 else 1) (σ c i j.toNat).toNat :: r) σ k) := propext ⟨fun h => h.2, fun h => ⟨rfl, h⟩⟩
theorem sf_iastore : stepf P K X N (.iastore) 1 pc ls st σ k = (siir st fun x j c i r => (c = 10 ∨ c = 12) ∧ i < cnt c ∧ 0 ≤ j ∧ j < alen c i ∧ N (pc + 1) ls r (up3 σ c i j.toNat x) k) := propext ⟨fun h => h.2, fun h => ⟨rfl, h⟩⟩
theorem sf_bastore : stepf P K X N (.bastore) 1 pc ls st σ k = (siir st fun x j c i r => c = 13 ∧ bitOK x ∧ i < cnt c ∧ 0 ≤ j ∧ j < alen c i ∧ N (pc + 1) ls r (up3 σ c i j.toNat x) k) := propext ⟨fun h => h.2, fun h => ⟨rfl, h⟩⟩
theorem sf_lastore : stepf P K X N (.lastore) 1 pc ls st σ k = (slir st fun x j c i r => c = 14 ∧ i = 0 ∧ j = 0 ∧ N (pc + 1) ls r (up3 σ 14 0 0 x) k) := propext ⟨fun h => h.2, fun h => ⟨rfl, h⟩⟩
theorem sf_aastore : stepf P K X N (.aastore) 1 pc ls st σ k = (srir st fun vc v j c i r => (c = 9 ∧ vc = 2 ∨ c = 11 ∧ vc = 1) ∧ v < cnt vc ∧ i < cnt c ∧ 0 ≤ j ∧ j < alen c i ∧ N (pc + 1) ls r (up3 σ c i j.toNat v) k) := propext ⟨fun h => h.2, fun h => ⟨rfl, h⟩⟩
theorem sf_arraylength : stepf P K X N (.arraylength) 1 pc ls st σ k = (s1r st fun c i r => br (c = 20) (match P.2.2.2.2.2.2 with | some q => N (pc + 1) ls (vi q.1 :: r) σ k | none => False) (9 ≤ c ∧ c < 15 ∧ i < cnt c ∧ N (pc + 1) ls (vi (alen c i) :: r) σ k)) := propext ⟨fun h => h.2, fun h => ⟨rfl, h⟩⟩
theorem sf_ldc2_w {idx : Nat} {q : Int} (h : List.lookup idx P.2.2.2.1 = some q) : stepf P K X N (.ldc2_w idx) 3 pc ls st σ k = (N (pc + 3) ls (vl q :: st) σ k) := by
  unfold stepf; simp only [h, true_and]
theorem sf_new {idx : Nat} {e : Nat} (h : List.lookup pc P.2.2.1 = some e) : stepf P K X N (.new idx) 3 pc ls st σ k = (st = [] ∧ k + 1 ≤ P.2.2.2.2.2.1 ∧ X pc e ls σ (k + 1)) := by
  unfold stepf; simp only [h, true_and]
theorem sf_iret1 {mc : Nat} {x : Int} (h : P.2.2.2.2.1 = 1) (hm : P.2.2.2.2.2.1 = mc) : stepf P K X N .ireturn 1 pc ls [vi x] σ k = (k ≤ mc ∧ K (some (vi x)) σ) := by
  subst hm; simp [stepf, rt, vi, h]
theorem sf_iret2 {mc : Nat} {x : Int} (h : P.2.2.2.2.1 = 2) (hm : P.2.2.2.2.2.1 = mc) : stepf P K X N .ireturn 1 pc ls [vi x] σ k = (k ≤ mc ∧ bitOK x ∧ K (some (vi x)) σ) := by
  subst hm; simp [stepf, rt, vi, h]
theorem sf_lret {mc : Nat} {x : Int} (h : P.2.2.2.2.1 = 3) (hm : P.2.2.2.2.2.1 = mc) : stepf P K X N .lreturn 1 pc ls [vl x] σ k = (k ≤ mc ∧ K (some (vl x)) σ) := by
  subst hm; simp [stepf, rt, vl, h]
theorem sf_dret {mc : Nat} {x : UInt64} (h : P.2.2.2.2.1 = 4) (hm : P.2.2.2.2.2.1 = mc) : stepf P K X N .dreturn 1 pc ls [vd x] σ k = (k ≤ mc ∧ K (some (vd x)) σ) := by
  subst hm; simp [stepf, rt, vd, h]
theorem sf_vret {mc : Nat} (h : P.2.2.2.2.1 = 0) (hm : P.2.2.2.2.2.1 = mc) : stepf P K X N .return_ 1 pc ls [] σ k = (k ≤ mc ∧ K none σ) := by
  subst hm; simp [stepf, h]
theorem sf_inv {idx n mc rc M : Nat} {sp : Spec} (h : List.lookup idx P.2.1 = some (n, mc, rc + 1, sp)) (hm : P.2.2.2.2.2.1 = M) : stepf P K X N (.invokevirtual idx) 3 pc ls st σ k = (n ≤ st.length ∧ rcv (rc + 1) (st.take n).reverse ∧ (st.drop n).length ≤ 4 ∧ k + mc ≤ M ∧
      sp (st.take n).reverse σ (fun r σ' => N (pc + 3) ls (r.toList ++ st.drop n) σ' (k + mc)) (fun e σ' => X pc e ls σ' (k + mc))) := by
  subst hm; simp [stepf, callf, h]
theorem sf_ins {idx n mc M : Nat} {sp : Spec} (h : List.lookup idx P.2.1 = some (n, mc, 0, sp)) (hm : P.2.2.2.2.2.1 = M) : stepf P K X N (.invokestatic idx) 3 pc ls st σ k = (n ≤ st.length ∧ (st.drop n).length ≤ 4 ∧ k + mc ≤ M ∧
      sp (st.take n).reverse σ (fun r σ' => N (pc + 3) ls (r.toList ++ st.drop n) σ' (k + mc)) (fun e σ' => X pc e ls σ' (k + mc))) := by
  subst hm; simp [stepf, callf, h, rcv]
end SFL
