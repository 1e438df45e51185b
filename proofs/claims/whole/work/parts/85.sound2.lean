/-- a call that does what sp says, from the state s -/
def CallAt (s : State) (l : Launch) (Γ : Ga) (own : String) (R : Room) (i : Instr) (rc n mc : Nat) (sp : Spec) : Prop :=
  ∀ (p : Program) (e : Env) (m : MethodId) (args : Array Value) (below : List Frame) (meth : Method) (c : Code) (H : Heap) (locs : List Loc) (cells slots : Nat) (cc : ByteArray) (nL pc : Nat) (la : Array Slot) (a : List AV) (rest : List Value) (σ : Sto) (K : Option AV → Sto → Prop) (KX : Nat → Sto → Prop),
    CallFix p m c cc nL s args lwA own → a.length = n → rcv rc a → la.size = nL → (rest.map fun v => v.category).sum ≤ 8 → decode cc pc = .ok (i, 3) → cells + mc ≤ R.cells → slots + 6 * mc ≤ R.slots → WA Γ σ s H → WS Γ s → sp a σ K KX →
    vx_Run p l e R s m args below meth c H locs cells slots mc (6 * mc) (F0 m pc la ((a.map (cv Γ)).reverse ++ rest)) rest (Qr Γ K (a.map (cv Γ)).toArray) (Xr Γ KX) (gA Γ)
theorem callAt_of {s : State} {l : Launch} {Γ : Ga} {own : String} {R : Room} {i : Instr} {rc n mc : Nat} {sp : Spec} (h : CallOK l Γ own R i rc n mc sp) : CallAt s l Γ own R i rc n mc sp := fun p e m args => h p e s m args
section SND
variable {p : Program} {l : Launch} {e : Env} {R : Room} {s : State} {m : MethodId} {args : Array Value} {below : List Frame} {meth : Method} {c : Code} {Q : State → Prop} {Γ : Ga} {nL b0 b1 : Nat} {cc : ByteArray} {own : String}
variable {P : Par} {K : Option AV → Sto → Prop} {X : Nat → Nat → List AV → Sto → Nat → Prop} {N : Nat → List AV → List AV → Sto → Nat → Prop}
theorem call_f2 (hx : p.tables.exec = Jvm.exec) (hb : c.code = cc) (hml : c.maxLocals = nL) (hown : s.vm.findClass own = some m.cls) (hts : ∀ w ∈ lwA, w.before args s = true) (hws : WS Γ s)
    (hcs : ∀ q ∈ P.2.1, CallAt s l Γ own R (if q.2.2.2.1 = 0 then .invokestatic q.1 else .invokevirtual q.1) q.2.2.2.1 q.2.1 q.2.2.1 q.2.2.2.2)
    (hR : b0 + P.2.2.2.2.2.1 ≤ R.cells ∧ b1 + 6 * P.2.2.2.2.2.1 ≤ R.slots)
    (hX : ∀ pc n ls σ k H locs la rest q9 ce, X pc n ls σ k → va_S (gA Γ) s.heap H locs → WA Γ σ s H → lv_has la nL (asL Γ 0 ls) → ls.length = nL → H[q9]? = some ce → ce.vm = .none → s.vm.findClass (exn n) = some ce.cls → vx_W p l e R s m args below meth c H locs (b0 + k) (b1 + 6 * k) Q (F0 m pc la rest) q9)
    (hN : ∀ pc ls st σ k, N pc ls st σ k → Gs p l e R s m args below meth c Q Γ nL b0 b1 pc ls st σ k) {i : Instr} {idx : Nat} {st0 : Bool} {pc : Nat} {ls st : List AV} {σ : Sto} {k : Nat} (hd : decode cc pc = .ok (i, 3)) (h : callf P X N idx st0 pc ls st σ k)
    (hi : ∀ q : Nat × Nat × Nat × Spec, (idx, q) ∈ P.2.1 → (st0 = true ↔ q.2.2.1 = 0) → (if q.2.2.1 = 0 then Instr.invokestatic idx else Instr.invokevirtual idx) = i) : Gs p l e R s m args below meth c Q Γ nL b0 b1 pc ls st σ k := by
  unfold callf at h
  split at h
  · rename_i q hq
    obtain ⟨h1, h2, h3, h4, h5, h6⟩ := h
    have hm := lookup_mem hq
    intro H locs la hS hA hl hn
    have hc := hcs _ hm
    dsimp only at hc
    rw [hi q hm h1] at hc
    have hlen : ((st.take q.1).reverse).length = q.1 := by rw [List.length_reverse, List.length_take]; omega
    have hcat : (((st.drop q.1).map (cv Γ)).map fun v => v.category).sum ≤ 8 := by
      have h9 : ∀ (u : List AV), ((u.map (cv Γ)).map fun v => v.category).sum ≤ 2 * u.length := by
        intro u
        induction u with
        | nil => simp
        | cons v t ih =>
          have := lv_cat (cv Γ v)
          simp only [List.map_cons, List.sum_cons, List.length_cons] at ih ⊢
          omega
      have := h9 (st.drop q.1)
      omega
    have hr := hc p e m args below meth c H locs (b0 + k) (b1 + 6 * k) cc nL pc la (st.take q.1).reverse ((st.drop q.1).map (cv Γ)) σ _ _ ⟨hx, hb, hml, hown, hts⟩ hlen h3 hl.1 hcat hd (by omega) (by omega) hA hws h6
    have e1 : ((st.take q.1).reverse.map (cv Γ)).reverse ++ (st.drop q.1).map (cv Γ) = st.map (cv Γ) := by
      rw [List.map_reverse, List.reverse_reverse, ← List.map_append, List.take_append_drop]
    rw [e1] at hr
    refine call_go hr hS (fun n σ' ce q9 H1 locs1 hk hA1 hS1 hce hcv hcl => ?_) (fun r σ' H1 locs1 hk hA1 hS1 => ?_)
    · have := hX _ _ _ _ _ _ _ la ((st.drop q.1).map (cv Γ)) q9 ce hk hS1 hA1 hl hn hce hcv hcl
      rw [show b0 + k + q.2.1 = b0 + (k + q.2.1) by omega, show b1 + 6 * k + 6 * q.2.1 = b1 + 6 * (k + q.2.1) by omega]
      exact this
    · have := hN _ _ _ _ _ hk H1 locs1 la hS1 hA1 hl hn
      rw [show b0 + k + q.2.1 = b0 + (k + q.2.1) by omega, show b1 + 6 * k + 6 * q.2.1 = b1 + 6 * (k + q.2.1) by omega]
      have e2 : (cvo Γ r).toList ++ (st.drop q.1).map (cv Γ) = (r.toList ++ st.drop q.1).map (cv Γ) := by
        cases r <;> rfl
      rw [e2]
      exact this
  · exact h.elim
set_option maxHeartbeats 4000000 in
theorem sound_f2 (hx : p.tables.exec = Jvm.exec) (hb : c.code = cc) (hml : c.maxLocals = nL) (hown : s.vm.findClass own = some m.cls) (hts : ∀ w ∈ lwA, w.before args s = true) (hws : WS Γ s) (hbase : Γ.2.2.2 ≤ s.heap.size)
    (hft : ∀ q ∈ P.1, FieldOK own q.1 q.2.1 q.2.2)
    (hcs : ∀ q ∈ P.2.1, CallAt s l Γ own R (if q.2.2.2.1 = 0 then .invokestatic q.1 else .invokevirtual q.1) q.2.2.2.1 q.2.1 q.2.2.1 q.2.2.2.2)
    (hlt : ∀ q ∈ P.2.2.2.1, Cond.constantLong own q.1 (Int64.ofInt q.2) ∈ lwA)
    (htt : ∀ (q : Nat × Nat), q ∈ P.2.2.1 → ∀ (idx : Nat) ls st σ k, decode cc q.1 = .ok (.new idx, 3) → st = [] → k + 1 ≤ P.2.2.2.2.2.1 → X q.1 q.2 ls σ (k + 1) → Gs p l e R s m args below meth c Q Γ nL b0 b1 q.1 ls st σ k)
    (hR : b0 + P.2.2.2.2.2.1 ≤ R.cells ∧ b1 + 6 * P.2.2.2.2.2.1 ≤ R.slots)
    (hX : ∀ pc n ls σ k H locs la rest q9 ce, X pc n ls σ k → va_S (gA Γ) s.heap H locs → WA Γ σ s H → lv_has la nL (asL Γ 0 ls) → ls.length = nL → H[q9]? = some ce → ce.vm = .none → s.vm.findClass (exn n) = some ce.cls → vx_W p l e R s m args below meth c H locs (b0 + k) (b1 + 6 * k) Q (F0 m pc la rest) q9)
    (hKi : ∀ x σ k H locs la pc, decode cc pc = .ok (.ireturn, 1) → k ≤ P.2.2.2.2.2.1 → (P.2.2.2.2.1 = 1 ∨ P.2.2.2.2.1 = 2 ∧ bitOK x) → K (some (vi x)) σ → va_S (gA Γ) s.heap H locs → WA Γ σ s H → W p l e R s m args below meth c H locs (b0 + k) (b1 + 6 * k) Q (F0 m pc la [.int (Int32.ofInt x)]))
    (hKl : ∀ x σ k H locs la pc, decode cc pc = .ok (.lreturn, 1) → k ≤ P.2.2.2.2.2.1 → P.2.2.2.2.1 = 3 → K (some (vl x)) σ → va_S (gA Γ) s.heap H locs → WA Γ σ s H → W p l e R s m args below meth c H locs (b0 + k) (b1 + 6 * k) Q (F0 m pc la [.long (Int64.ofInt x)]))
    (hKd : ∀ x σ k H locs la pc, decode cc pc = .ok (.dreturn, 1) → k ≤ P.2.2.2.2.2.1 → P.2.2.2.2.1 = 4 → K (some (vd x)) σ → va_S (gA Γ) s.heap H locs → WA Γ σ s H → W p l e R s m args below meth c H locs (b0 + k) (b1 + 6 * k) Q (F0 m pc la [.double x]))
    (hKv : ∀ σ k H locs la pc, decode cc pc = .ok (.return_, 1) → k ≤ P.2.2.2.2.2.1 → P.2.2.2.2.1 = 0 → K none σ → va_S (gA Γ) s.heap H locs → WA Γ σ s H → W p l e R s m args below meth c H locs (b0 + k) (b1 + 6 * k) Q (F0 m pc la []))
    (hsc : ∀ q, P.2.2.2.2.2.2 = some q → q.1 ≤ 2147483647 ∧ ∃ xs : Nat → Int32, (∀ j, (xs j).toInt = q.2 j) ∧ va_X (Γ.2.2.1 20 0) q.1 xs s s.heap ∧ Γ.2.2.1 20 0 < s.heap.size ∧ ¬ gA Γ (Γ.2.2.1 20 0) ∧ ∀ i, Γ.2.2.1 20 i = Γ.2.2.1 20 0)
    (hN : ∀ pc ls st σ k, N pc ls st σ k → Gs p l e R s m args below meth c Q Γ nL b0 b1 pc ls st σ k) {i : Instr} {len pc : Nat} {ls st : List AV} {σ : Sto} {k : Nat} (hd : decode cc pc = .ok (i, len)) (h : stepf P K X N i len pc ls st σ k) : Gs p l e R s m args below meth c Q Γ nL b0 b1 pc ls st σ k := by
  unfold stepf at h
  split at h
  -- iconst
  · obtain ⟨rfl, h⟩ := h
    intro H locs la hS hA hl hn
    exact lv_iconst hx hb hd rfl (hN _ _ _ _ _ h H locs la hS hA hl hn)
  -- bipush
  · obtain ⟨rfl, h1, h2, h⟩ := h
    intro H locs la hS hA hl hn
    exact lv_bipush hx hb hd (i8_of h1 h2) (hN _ _ _ _ _ h H locs la hS hA hl hn)
  -- sipush
  · obtain ⟨rfl, h1, h2, h⟩ := h
    intro H locs la hS hA hl hn
    exact lv_sipush hx hb hd (i16_of h1 h2) (hN _ _ _ _ _ h H locs la hS hA hl hn)
  -- lconst
  · obtain ⟨rfl, h⟩ := h
    intro H locs la hS hA hl hn
    exact lv_lconst hx hb hd (Int64.ofInt_eq_ofNat).symm (hN _ _ _ _ _ h H locs la hS hA hl hn)
  -- iload_n
  · obtain ⟨rfl, h⟩ := h
    obtain ⟨x, hk, h⟩ := ldi_v h
    intro H locs la hS hA hl hn
    exact lv_iload_n hx hb hd rfl (asL_get hl hk trivial) (hN _ _ _ _ _ h H locs la hS hA hl hn)
  -- iload
  · obtain ⟨rfl, h⟩ := h
    obtain ⟨x, hk, h⟩ := ldi_v h
    intro H locs la hS hA hl hn
    exact lv_iload hx hb hd (asL_get hl hk trivial) (hN _ _ _ _ _ h H locs la hS hA hl hn)
  -- lload_n
  · obtain ⟨rfl, h⟩ := h
    obtain ⟨x, hk, h⟩ := ldl_v h
    intro H locs la hS hA hl hn
    exact lv_lload_n hx hb hd rfl (asL_get hl hk trivial) (hN _ _ _ _ _ h H locs la hS hA hl hn)
  -- lload
  · obtain ⟨rfl, h⟩ := h
    obtain ⟨x, hk, h⟩ := ldl_v h
    intro H locs la hS hA hl hn
    exact lv_lload hx hb hd (asL_get hl hk trivial) (hN _ _ _ _ _ h H locs la hS hA hl hn)
  -- dload
  · obtain ⟨rfl, h⟩ := h
    obtain ⟨x, hk, h⟩ := ldd_v h
    intro H locs la hS hA hl hn
    exact lv_dload hx hb hd (asL_get hl hk trivial) (hN _ _ _ _ _ h H locs la hS hA hl hn)
  -- aload_n
  · obtain ⟨rfl, h⟩ := h
    obtain ⟨c0, i0, hk, h⟩ := ldr_v h
    intro H locs la hS hA hl hn
    exact lv_aload_n hx hb hd rfl (asL_get hl hk trivial) (hN _ _ _ _ _ h H locs la hS hA hl hn)
  -- aload
  · obtain ⟨rfl, h⟩ := h
    obtain ⟨c0, i0, hk, h⟩ := ldr_v h
    intro H locs la hS hA hl hn
    exact lv_aload hx hb hd (asL_get hl hk trivial) (hN _ _ _ _ _ h H locs la hS hA hl hn)
  -- istore_n
  · obtain ⟨rfl, h⟩ := h
    obtain ⟨x, r, rfl, h⟩ := s1i_v h
    obtain ⟨hk, h2, h⟩ := h
    intro H locs la hS hA hl hn
    exact lv_istore_n hx hb hd rfl hl (hn ▸ hk) rfl (fun la hl => hN _ _ _ _ _ h H locs la hS hA (lv_less hl (asL_set1 (v := vi x) h2)) (by rw [List.length_set]; exact hn))
  -- istore
  · obtain ⟨rfl, h⟩ := h
    obtain ⟨x, r, rfl, h⟩ := s1i_v h
    obtain ⟨hk, h2, h⟩ := h
    intro H locs la hS hA hl hn
    exact lv_istore hx hb hd hl (hn ▸ hk) rfl (fun la hl => hN _ _ _ _ _ h H locs la hS hA (lv_less hl (asL_set1 (v := vi x) h2)) (by rw [List.length_set]; exact hn))
  -- astore_n
  · obtain ⟨rfl, h⟩ := h
    obtain ⟨c0, i0, r, rfl, h⟩ := s1r_v h
    obtain ⟨hk, h2, h⟩ := h
    intro H locs la hS hA hl hn
    exact lv_astore_n hx hb hd rfl hl (hn ▸ hk) rfl (fun la hl => hN _ _ _ _ _ h H locs la hS hA (lv_less hl (asL_set1 (v := vr c0 i0) h2)) (by rw [List.length_set]; exact hn))
  -- astore
  · obtain ⟨rfl, h⟩ := h
    obtain ⟨c0, i0, r, rfl, h⟩ := s1r_v h
    obtain ⟨hk, h2, h⟩ := h
    intro H locs la hS hA hl hn
    exact lv_astore hx hb hd hl (hn ▸ hk) rfl (fun la hl => hN _ _ _ _ _ h H locs la hS hA (lv_less hl (asL_set1 (v := vr c0 i0) h2)) (by rw [List.length_set]; exact hn))
  -- lstore_n
  · obtain ⟨rfl, h⟩ := h
    obtain ⟨x, r, rfl, h⟩ := s1l_v h
    obtain ⟨hk, h2, h⟩ := h
    intro H locs la hS hA hl hn
    exact lv_lstore_n hx hb hd rfl hl (hn ▸ hk) rfl (fun la hl => hN _ _ _ _ _ h H locs la hS hA (lv_less hl (asL_set2 (v := vl x) h2)) (by rw [List.length_set, List.length_set]; exact hn))
  -- lstore
  · obtain ⟨rfl, h⟩ := h
    obtain ⟨x, r, rfl, h⟩ := s1l_v h
    obtain ⟨hk, h2, h⟩ := h
    intro H locs la hS hA hl hn
    exact lv_lstore hx hb hd hl (hn ▸ hk) rfl (fun la hl => hN _ _ _ _ _ h H locs la hS hA (lv_less hl (asL_set2 (v := vl x) h2)) (by rw [List.length_set, List.length_set]; exact hn))
  -- dstore
  · obtain ⟨rfl, h⟩ := h
    obtain ⟨x, r, rfl, h⟩ := s1d_v h
    obtain ⟨hk, h2, h⟩ := h
    intro H locs la hS hA hl hn
    exact lv_dstore hx hb hd hl (hn ▸ hk) rfl (fun la hl => hN _ _ _ _ _ h H locs la hS hA (lv_less hl (asL_set2 (v := vd x) h2)) (by rw [List.length_set, List.length_set]; exact hn))
  -- iinc
  · obtain ⟨rfl, h⟩ := h
    obtain ⟨x, hv, hk, h2, h⟩ := ldx_v h
    intro H locs la hS hA hl hn
    obtain ⟨q, hq⟩ := List.getElem?_of_mem ((asL_mem (Γ := Γ) (w := cv Γ (vi x)) ls 0 _).mpr ⟨_, _, (Nat.zero_add _).symm, hv, trivial, rfl⟩)
    exact lv_iinc hx hb hd hl (k := q) hq (i32_add x _) (hn ▸ hk) rfl (fun la hl => hN _ _ _ _ _ h H locs la hS hA (lv_less hl (asL_set1 (v := vi _) h2)) (by rw [List.length_set]; exact hn))
  -- iadd
  · obtain ⟨rfl, h⟩ := h
    obtain ⟨x, y, r, rfl, h⟩ := s2i_v h
    intro H locs la hS hA hl hn
    exact lv_iadd hx hb hd (by rw [i32_add]; exact hN _ _ _ _ _ h H locs la hS hA hl hn)
  -- isub
  · obtain ⟨rfl, h⟩ := h
    obtain ⟨x, y, r, rfl, h⟩ := s2i_v h
    intro H locs la hS hA hl hn
    exact lv_isub hx hb hd (by rw [i32_sub]; exact hN _ _ _ _ _ h H locs la hS hA hl hn)
  -- imul
  · obtain ⟨rfl, h⟩ := h
    obtain ⟨x, y, r, rfl, h⟩ := s2i_v h
    intro H locs la hS hA hl hn
    exact lv_imul hx hb hd (by rw [i32_mul]; exact hN _ _ _ _ _ h H locs la hS hA hl hn)
  -- ineg
  · obtain ⟨rfl, h⟩ := h
    obtain ⟨x, r, rfl, h⟩ := s1i_v h
    intro H locs la hS hA hl hn
    exact lv_ineg hx hb hd (by rw [i32_neg]; exact hN _ _ _ _ _ h H locs la hS hA hl hn)
  -- idiv
  · obtain ⟨rfl, h⟩ := h
    obtain ⟨x, y, r, rfl, h0, h1, h2, h3, h⟩ := s2i_v h
    intro H locs la hS hA hl hn
    exact lv_idiv hx hb hd (i32_ne0 h2 h3) (by rw [i32_div h0 h1 h2 h3]; exact hN _ _ _ _ _ h H locs la hS hA hl hn)
  -- irem
  · obtain ⟨rfl, h⟩ := h
    obtain ⟨x, y, r, rfl, h0, h1, h2, h3, h⟩ := s2i_v h
    intro H locs la hS hA hl hn
    exact lv_irem hx hb hd (i32_ne0 h2 h3) (by rw [i32_rem h0 h1 h2 h3]; exact hN _ _ _ _ _ h H locs la hS hA hl hn)
  -- iand
  · obtain ⟨rfl, h⟩ := h
    obtain ⟨x, y, r, rfl, h31, h9⟩ := s2i_v h
    subst h31
    intro H locs la hS hA hl hn
    obtain ⟨j, hj, ej⟩ := pk_andE (Int32.ofInt x) (m := 31) 5 rfl
    refine lv_iand hx hb hd ?_
    have e31 : Int32.ofInt 31 = 31 := rfl
    rw [e31, ej]
    exact hN _ _ _ _ _ (h9 j (by omega) (by omega)) H locs la hS hA hl hn
  -- i2l
  · obtain ⟨rfl, h⟩ := h
    obtain ⟨x, r, rfl, h0, h⟩ := s1i_v h
    intro H locs la hS hA hl hn
    exact lv_i2l hx hb hd (i32_64 h0) (hN _ _ _ _ _ h H locs la hS hA hl hn)
  -- ladd
  · obtain ⟨rfl, h⟩ := h
    obtain ⟨x, y, r, rfl, h⟩ := s2l_v h
    intro H locs la hS hA hl hn
    exact lv_ladd hx hb hd (by rw [i64_add]; exact hN _ _ _ _ _ h H locs la hS hA hl hn)
  -- lsub
  · obtain ⟨rfl, h⟩ := h
    obtain ⟨x, y, r, rfl, h⟩ := s2l_v h
    intro H locs la hS hA hl hn
    exact lv_lsub hx hb hd (by rw [i64_sub]; exact hN _ _ _ _ _ h H locs la hS hA hl hn)
  -- lmul
  · obtain ⟨rfl, h⟩ := h
    obtain ⟨x, y, r, rfl, h⟩ := s2l_v h
    intro H locs la hS hA hl hn
    exact lv_lmul hx hb hd (by rw [i64_mul]; exact hN _ _ _ _ _ h H locs la hS hA hl hn)
  -- lcmp
  · obtain ⟨rfl, h⟩ := h
    obtain ⟨x, y, r, rfl, h⟩ := s2l_v h
    intro H locs la hS hA hl hn
    refine W.lcmp hx hb hd ?_
    by_cases hxy : x = y
    · subst hxy
      have e0 : lg_cmp (Int64.ofInt x) (Int64.ofInt x) = Int32.ofInt 0 := by unfold lg_cmp; simp
      show W p l e R s m args below meth c H locs _ _ Q (F0 m (pc + 1) la (.int (lg_cmp (Int64.ofInt x) (Int64.ofInt x)) :: _))
      rw [e0]
      exact hN _ _ _ _ _ (h.1 rfl) H locs la hS hA hl hn
    · obtain ⟨h1, h2, h3⟩ := h.2 hxy
      by_cases hlt : x < y
      · have e0 : lg_cmp (Int64.ofInt x) (Int64.ofInt y) = Int32.ofInt (-1) := by
          unfold lg_cmp
          simp only [gt_iff_lt, Int64.lt_iff_toInt_lt, ← Int64.toInt_inj, i64_to h1, i64_to h2]
          rw [if_neg (by omega), if_neg hxy]; rfl
        show W p l e R s m args below meth c H locs _ _ Q (F0 m (pc + 1) la (.int (lg_cmp (Int64.ofInt x) (Int64.ofInt y)) :: _))
        rw [e0]
        exact hN _ _ _ _ _ (h3.1 hlt) H locs la hS hA hl hn
      · have e0 : lg_cmp (Int64.ofInt x) (Int64.ofInt y) = Int32.ofInt 1 := by
          unfold lg_cmp
          simp only [gt_iff_lt, Int64.lt_iff_toInt_lt, ← Int64.toInt_inj, i64_to h1, i64_to h2]
          rw [if_pos (by omega)]; rfl
        show W p l e R s m args below meth c H locs _ _ Q (F0 m (pc + 1) la (.int (lg_cmp (Int64.ofInt x) (Int64.ofInt y)) :: _))
        rw [e0]
        exact hN _ _ _ _ _ (h3.2 hlt) H locs la hS hA hl hn
  -- i2d
  · obtain ⟨rfl, h⟩ := h
    obtain ⟨x, r, rfl, h⟩ := s1i_v h
    intro H locs la hS hA hl hn
    exact lv_i2d hx hb hd (hN _ _ _ _ _ h H locs la hS hA hl hn)
  -- ddiv
  · obtain ⟨rfl, h⟩ := h
    obtain ⟨x, y, r, rfl, h1, h2⟩ := s2d_v h
    intro H locs la hS hA hl hn
    exact lv_ddiv hx hb hd h1 (hN _ _ _ _ _ h2 H locs la hS hA hl hn)
  -- dcmp
  · obtain ⟨rfl, h⟩ := h
    obtain ⟨x, y, r, rfl, h2⟩ := s2d_v h
    intro H locs la hS hA hl hn
    have h3 := hN _ _ _ _ _ h2 H locs la hS hA hl hn
    have e0 : Int32.ofInt (Op.cmpValue (FP.dcmp x y) ‹CmpOp›).toInt = Op.cmpValue (FP.dcmp x y) ‹CmpOp› := Int32.ofInt_toInt _
    refine lv_dcmp hx hb hd ?_
    rw [← e0]
    exact h3
  -- dup
  · obtain ⟨rfl, h⟩ := h
    obtain ⟨v, r, rfl, h1, h2⟩ := s1v_v h
    intro H locs la hS hA hl hn
    exact lv_dup hx hb hd (c1_cat h1) (hN _ _ _ _ _ h2 H locs la hS hA hl hn)
  -- dup2
  · obtain ⟨rfl, h⟩ := h
    obtain ⟨v, w, r, rfl, h1, h2, h3⟩ := s2v_v h
    intro H locs la hS hA hl hn
    exact lv_dup2_11 hx hb hd (c1_cat h1) (c1_cat h2) (hN _ _ _ _ _ h3 H locs la hS hA hl hn)
  -- pop
  · obtain ⟨rfl, h⟩ := h
    obtain ⟨v, r, rfl, h1, h2⟩ := s1v_v h
    intro H locs la hS hA hl hn
    exact lv_pop hx hb hd (c1_cat h1) (hN _ _ _ _ _ h2 H locs la hS hA hl hn)
  -- goto
  · obtain ⟨rfl, h0, h⟩ := h
    intro H locs la hS hA hl hn
    exact lv_goto hx hb hd (Int.toNat_of_nonneg h0).symm (hN _ _ _ _ _ h H locs la hS hA hl hn)
  -- ifCond
  · rename_i op off
    obtain ⟨rfl, hj, h⟩ := h
    obtain ⟨x, r, rfl, h0, h9⟩ := s1i_v h
    intro H locs la hS hA hl hn
    have hz : inR 0 := by unfold inR; omega
    have ht := (Int.toNat_of_nonneg hj).symm
    cases op <;> unfold cmpb br at h9 <;> dsimp only at h9
    · exact lv_if_eq hx hb hd ht (fun q => hN _ _ _ _ _ ((h9.1 ((i32_eq h0 hz).mp q)).2) H locs la hS hA hl hn) (fun q => hN _ _ _ _ _ (h9.2 (fun z => q ((i32_eq h0 hz).mpr z))) H locs la hS hA hl hn)
    · exact lv_if_ne hx hb hd ht (fun q => hN _ _ _ _ _ ((h9.2 (fun z => q ((i32_eq h0 hz).mpr z))).2) H locs la hS hA hl hn) (fun q => hN _ _ _ _ _ (h9.1 ((i32_eq h0 hz).mp q)) H locs la hS hA hl hn)
    · exact lv_if_lt hx hb hd ht (fun q => hN _ _ _ _ _ ((h9.1 ((i32_lt h0 hz).mp q)).2) H locs la hS hA hl hn) (fun q => hN _ _ _ _ _ (h9.2 (fun z => q ((i32_lt h0 hz).mpr z))) H locs la hS hA hl hn)
    · exact lv_if_ge hx hb hd ht (fun q => hN _ _ _ _ _ ((h9.2 (Int.not_lt.mpr ((i32_le hz h0).mp q))).2) H locs la hS hA hl hn) (fun q => hN _ _ _ _ _ (h9.1 (Int.not_le.mp (fun z => q ((i32_le hz h0).mpr z)))) H locs la hS hA hl hn)
    · exact lv_if_gt hx hb hd ht (fun q => hN _ _ _ _ _ ((h9.1 ((i32_lt hz h0).mp q)).2) H locs la hS hA hl hn) (fun q => hN _ _ _ _ _ (h9.2 (fun z => q ((i32_lt hz h0).mpr z))) H locs la hS hA hl hn)
    · exact lv_if_le hx hb hd ht (fun q => hN _ _ _ _ _ ((h9.2 (Int.not_lt.mpr ((i32_le h0 hz).mp q))).2) H locs la hS hA hl hn) (fun q => hN _ _ _ _ _ (h9.1 (Int.not_le.mp (fun z => q ((i32_le h0 hz).mpr z)))) H locs la hS hA hl hn)
  -- if_icmp
  · rename_i op off
    obtain ⟨rfl, hj, h⟩ := h
    obtain ⟨x, y, r, rfl, h0, hy, h9⟩ := s2i_v h
    intro H locs la hS hA hl hn
    have ht := (Int.toNat_of_nonneg hj).symm
    cases op <;> unfold cmpb br at h9 <;> dsimp only at h9
    · exact lv_icmp_eq hx hb hd ht (fun q => hN _ _ _ _ _ ((h9.1 ((i32_eq h0 hy).mp q)).2) H locs la hS hA hl hn) (fun q => hN _ _ _ _ _ (h9.2 (fun z => q ((i32_eq h0 hy).mpr z))) H locs la hS hA hl hn)
    · exact lv_icmp_ne hx hb hd ht (fun q => hN _ _ _ _ _ ((h9.2 (fun z => q ((i32_eq h0 hy).mpr z))).2) H locs la hS hA hl hn) (fun q => hN _ _ _ _ _ (h9.1 ((i32_eq h0 hy).mp q)) H locs la hS hA hl hn)
    · exact lv_icmp_lt hx hb hd ht (fun q => hN _ _ _ _ _ ((h9.1 ((i32_lt h0 hy).mp q)).2) H locs la hS hA hl hn) (fun q => hN _ _ _ _ _ (h9.2 (fun z => q ((i32_lt h0 hy).mpr z))) H locs la hS hA hl hn)
    · exact lv_icmp_ge hx hb hd ht (fun q => hN _ _ _ _ _ ((h9.2 (Int.not_lt.mpr ((i32_le hy h0).mp q))).2) H locs la hS hA hl hn) (fun q => hN _ _ _ _ _ (h9.1 (Int.not_le.mp (fun z => q ((i32_le hy h0).mpr z)))) H locs la hS hA hl hn)
    · exact lv_icmp_gt hx hb hd ht (fun q => hN _ _ _ _ _ ((h9.1 ((i32_lt hy h0).mp q)).2) H locs la hS hA hl hn) (fun q => hN _ _ _ _ _ (h9.2 (fun z => q ((i32_lt hy h0).mpr z))) H locs la hS hA hl hn)
    · exact lv_icmp_le hx hb hd ht (fun q => hN _ _ _ _ _ ((h9.2 (Int.not_lt.mpr ((i32_le h0 hy).mp q))).2) H locs la hS hA hl hn) (fun q => hN _ _ _ _ _ (h9.1 (Int.not_le.mp (fun z => q ((i32_le h0 hy).mpr z)))) H locs la hS hA hl hn)
  -- tableswitch
  · rename_i d lo hi offs
    obtain ⟨x, r, rfl, h0, hlen, h9⟩ := s1i_v h
    intro H locs la hS hA hl hn
    have key : ∀ (lst : List Int) (a : Int), tsw pc d (fun t => N t ls r σ k) x a lst → (∃ (j : Nat) (o : Int), x = a + j ∧ lst[j]? = some o ∧ jk pc o (fun t => N t ls r σ k)) ∨ ((x < a ∨ a + lst.length ≤ x) ∧ jk pc d (fun t => N t ls r σ k)) := by
      intro lst
      induction lst with
      | nil => intro a h; exact Or.inr ⟨by simp; omega, h⟩
      | cons o t ih =>
        intro a h
        by_cases hxa : x = a
        · exact Or.inl ⟨0, o, by simpa using hxa, rfl, h.1 hxa⟩
        · rcases ih (a + 1) (h.2 hxa) with ⟨j, o', h1, h2, h3⟩ | ⟨h1, h2⟩
          · exact Or.inl ⟨j + 1, o', by omega, by simpa using h2, h3⟩
          · exact Or.inr ⟨by simp only [List.length_cons]; omega, h2⟩
    rcases key _ _ h9 with ⟨j, o, h1, h2, h3, h4⟩ | ⟨h1, h3, h4⟩
    · have hj := (List.getElem?_eq_some_iff.mp h2).1
      exact lv_tableIn hx hb hd (by rw [i32_to h0]; omega) (by rw [i32_to h0]; omega) (off := o) (by rw [i32_to h0, show (x - lo).toNat = j by omega]; rw [← Array.getElem?_toList]; exact h2) (Int.toNat_of_nonneg h3).symm (hN _ _ _ _ _ h4 H locs la hS hA hl hn)
    · exact lv_tableOut hx hb hd (by rw [i32_to h0]; omega) (Int.toNat_of_nonneg h3).symm (hN _ _ _ _ _ h4 H locs la hS hA hl hn)
  -- lookupswitch
  · rename_i d ps
    obtain ⟨x, r, rfl, h0, hp, h9⟩ := s1i_v h
    intro H locs la hS hA hl hn
    have key : ∀ (lst : List (Int × Int)), lsw pc d (fun t => N t ls r σ k) x lst → jk pc (Op.lookupswitch.offset lst d x) (fun t => N t ls r σ k) := by
      intro lst
      induction lst with
      | nil => intro h; exact h
      | cons q t ih =>
        intro h
        by_cases hxa : x = q.1
        · have e9 : Op.lookupswitch.offset (q :: t) d x = q.2 := by obtain ⟨q1, q2⟩ := q; dsimp only at hxa; subst hxa; simp [Op.lookupswitch.offset]
          rw [e9]; exact h.1 hxa
        · have e9 : Op.lookupswitch.offset (q :: t) d x = Op.lookupswitch.offset t d x := by obtain ⟨q1, q2⟩ := q; dsimp only at hxa; simp [Op.lookupswitch.offset, Ne.symm hxa]; try (intro z; exact absurd z.symm hxa)
          rw [e9]; exact ih (h.2 hxa)
    obtain ⟨h3, h4⟩ := key _ h9
    exact lv_lookup hx hb hd hp (by rw [i32_to h0]) (Int.toNat_of_nonneg h3).symm (hN _ _ _ _ _ h4 H locs la hS hA hl hn)
  -- getfield
  · obtain ⟨rfl, h⟩ := h
    split at h
    · rename_i q hq
      obtain ⟨c0, i0, r, rfl, rfl, hi, h9⟩ := s1r_v h
      intro H locs la hS hA hl hn
      obtain ⟨f1, f2, f3⟩ := hft _ (lookup_mem hq)
      obtain ⟨q0, hq0⟩ := mem_dom (c := q.1) (by have := f1; dsimp only at this; omega) hi
      refine va_get hx hb hts (fcl_in f1) hown hA.2.2.1 hA.1 q0 ((wsl_get Γ σ hq0).trans (by rw [cel_o Γ σ i0 f1])) (fcl_at f1) q.2 f2 (hts _ f3) (fun _ h => h) (v := cv Γ (fg σ q.1 i0 q.2)) (by rw [List.getElem?_map, List.getElem?_range f2]; rfl) hd (hN _ _ _ _ _ h9 H locs la hS hA hl hn)
    · exact h.elim
  -- putfield
  · obtain ⟨rfl, h⟩ := h
    split at h
    · rename_i q hq
      obtain ⟨x, c0, i0, r, rfl, rfl, hi, hk2, hkx, h9⟩ := sir_v h
      intro H locs la hS hA hl hn
      obtain ⟨f1, f2, f3⟩ := hft _ (lookup_mem hq)
      dsimp only at f1 f2 f3
      obtain ⟨t0, t1, t2, t3⟩ := fk_tab q.1 f1 q.2 f2
      obtain ⟨q0, hq0⟩ := mem_dom (c := q.1) (by omega) hi
      have hty : narrow (fty q.1 q.2) (.int (Int32.ofInt x)) = .int (Int32.ofInt x) ∧ fits (fty q.1 q.2) (.int (Int32.ofInt x)) = true := by
        rcases hkx with hkx | hkx
        · rw [t0 hkx]; exact nar_i _
        · by_cases h0 : fk q.1 q.2 = 0
          · rw [t0 h0]; exact nar_i _
          · rw [t1 (by omega)]; exact nar_b hkx
      have hset : (List.map (fun k => cv Γ (fg σ q.1 i0 k)) (List.range (nf q.1))).set q.2 (cv Γ (vi x)) = List.map (fun k => cv Γ (fg (up3 σ q.1 i0 q.2 x) q.1 i0 k)) (List.range (nf q.1)) := by
        apply List.ext_getElem?
        intro j
        by_cases hj : j = q.2
        · subst hj
          rw [List.getElem?_set_self (by simpa using f2), List.getElem?_map, List.getElem?_range f2]
          show _ = some (cv Γ (fg (up3 σ q.1 i0 q.2 x) q.1 i0 q.2))
          rw [fg_i hk2]
          show _ = some (cv Γ (vi (up3 σ q.1 i0 q.2 x q.1 i0 q.2)))
          rw [up_e]
        · rw [List.getElem?_set_ne (Ne.symm hj), List.getElem?_map, List.getElem?_map]
          cases hr : (List.range (nf q.1))[j]? with
          | none => rfl
          | some j' =>
            have hjj : j' = j := by
              have := List.getElem?_eq_some_iff.mp hr
              obtain ⟨_, h2⟩ := this
              simpa using h2.symm
            subst hjj
            show some (cv Γ (fg σ q.1 i0 j')) = some (cv Γ (fg (up3 σ q.1 i0 q.2 x) q.1 i0 j'))
            rw [fg_congr (σ := σ) (σ' := up3 σ q.1 i0 q.2 x) (by unfold up3; rw [if_neg (fun z => hj z.2.2)])]
      refine va_put (ty := fty q.1 q.2) hx hb hts (fcl_in f1) (fty q.1) (fcl_ty f1) (fcl_nm f1) hown hA.2.2.1 hA.1 hA.2.1 hS q0 ((wsl_get Γ σ hq0).trans (by rw [cel_o Γ σ i0 f1])) (fcl_at f1) q.2 f2 (hts _ f3) (fun _ h => h) (t2 hk2) (fcl_ty f1 q.2 f2) hty.1 hty.2 (by simpa using f2) hd (fun H1 locs1 hP1 hD1 hS1 => ?_)
      rw [hset] at hP1 hD1
      have hw : (wsl Γ σ).set q0 (Γ.2.2.1 q.1 i0, .inr (q.1, List.map (fun k => cv Γ (fg (up3 σ q.1 i0 q.2 x) q.1 i0 k)) (List.range (nf q.1)))) = wsl Γ (up3 σ q.1 i0 q.2 x) := by
        rw [← cel_o Γ (up3 σ q.1 i0 q.2 x) i0 f1]
        exact wsl_set hA.2.1 hq0 (fun c' i' hne => cel_congr (fun k => by unfold up3; rw [if_neg (fun z => hne (by rw [z.1, z.2.1]))]))
      rw [hw] at hP1 hD1
      exact hN _ _ _ _ _ h9 H1 locs1 la hS1 (wa_put hbase hA hS hS1 hP1 hD1) hl hn
    · exact h.elim
  -- iaload
  · obtain ⟨rfl, h⟩ := h
    obtain ⟨j, c0, i0, r, rfl, h9⟩ := sir_v h
    intro H locs la hS hA hl hn
    by_cases hc : c0 = 20
    · subst hc
      have h9 := h9.1 rfl
      unfold scrd at h9
      split at h9
      · rename_i q hq
        obtain ⟨h0, h1, h2⟩ := h9
        obtain ⟨g1, xs, g2, g3, g4, g5, g6⟩ := hsc q hq
        have e1 : cv Γ (vr 20 i0) = .ref (Γ.2.2.1 20 0) := by show Value.ref (Γ.2.2.1 20 i0) = _; rw [g6 i0]
        show W p l e R s m args below meth c H locs _ _ Q (F0 m pc la (cv Γ (vi j) :: cv Γ (vr 20 i0) :: _))
        rw [e1]
        refine va_sld hx hb g3 g4 g5 hS (i32_in h0 (by exact_mod_cast h1) g1) hd ?_
        rw [i32_cl h0 (by omega)]
        have e2 : Value.int (xs j.toNat) = cv Γ (vi (q.2 j.toNat)) := by
          show Value.int _ = Value.int (Int32.ofInt (q.2 j.toNat))
          rw [← g2 j.toNat, Int32.ofInt_toInt]
        rw [e2]
        exact hN _ _ _ _ _ h2 H locs la hS hA hl hn
      · exact h9.elim
    · obtain ⟨hcc, h1, h2, h3, h4, h5⟩ := h9.2 hc
      obtain ⟨q0, hq0⟩ := mem_dom h1 h2
      have hin : vp_in (Int32.ofInt j) (alen c0 i0) := i32_in h3 h4 (alen_le c0 i0)
      have h6 : j < 2147483648 := by have := alen_le c0 i0; omega
      rcases hcc with rfl | rfl
      · refine va_iald hx hb hA.2.2.1 hA.1 q0 0 (wsl_get Γ σ hq0) rfl hin hd ?_
        rw [i32_cl h3 h6]
        exact hN _ _ _ _ _ h5 H locs la hS hA hl hn
      · refine va_iald hx hb hA.2.2.1 hA.1 q0 0 (wsl_get Γ σ hq0) rfl hin hd ?_
        rw [i32_cl h3 h6]
        exact hN _ _ _ _ _ h5 H locs la hS hA hl hn
  -- baload
  · obtain ⟨rfl, h⟩ := h
    obtain ⟨j, c0, i0, r, rfl, rfl, h1, h2, h3, h4, h5⟩ := sir_v h
    intro H locs la hS hA hl hn
    obtain ⟨q0, hq0⟩ := mem_dom h1 h2
    have h6 : j < 2147483648 := by have := alen_le 13 i0; omega
    refine va_zald hx hb hA.2.2.1 hA.1 q0 1 (wsl_get Γ σ hq0) rfl (i32_in h3 h4 (alen_le 13 i0)) hd ?_
    rw [i32_cl h3 h6]
    exact hN _ _ _ _ _ h5 H locs la hS hA hl hn
  -- laload
  · obtain ⟨rfl, h⟩ := h
    obtain ⟨j, c0, i0, r, rfl, rfl, rfl, rfl, h5⟩ := sir_v h
    intro H locs la hS hA hl hn
    obtain ⟨q0, hq0⟩ := mem_dom (c := 14) (i := 0) (by omega) (by decide)
    refine va_lald hx hb hA.2.2.1 hA.1 q0 4 (wsl_get Γ σ hq0) rfl (i32_in (n := 1) (by omega) (by omega) (by omega)) hd ?_
    exact hN _ _ _ _ _ h5 H locs la hS hA hl hn
  -- aaload
  · obtain ⟨rfl, h⟩ := h
    obtain ⟨j, c0, i0, r, rfl, hcc, h2, h3, h4, h5⟩ := sir_v h
    intro H locs la hS hA hl hn
    have h6 : j < 2147483648 := by have := alen_le c0 i0; omega
    have hin : vp_in (Int32.ofInt j) (alen c0 i0) := i32_in h3 h4 (alen_le c0 i0)
    rcases hcc with rfl | rfl
    · obtain ⟨q0, hq0⟩ := mem_dom (c := 9) (by omega) h2
      refine va_aldq hx hb hA.2.2.1 hA.1 q0 3 (wsl_get Γ σ hq0) rfl hin hd ?_
      rw [i32_cl h3 h6]
      exact hN _ _ _ _ _ h5 H locs la hS hA hl hn
    · obtain ⟨q0, hq0⟩ := mem_dom (c := 11) (by omega) h2
      refine va_aldq hx hb hA.2.2.1 hA.1 q0 2 (wsl_get Γ σ hq0) rfl hin hd ?_
      rw [i32_cl h3 h6]
      exact hN _ _ _ _ _ h5 H locs la hS hA hl hn
  -- iastore
  · obtain ⟨rfl, h⟩ := h
    obtain ⟨x, j, c0, i0, r, rfl, hcc, h2, h3, h4, h5⟩ := siir_v h
    intro H locs la hS hA hl hn
    have h6 : j < 2147483648 := by have := alen_le c0 i0; omega
    have hin : vp_in (Int32.ofInt j) (alen c0 i0) := i32_in h3 h4 (alen_le c0 i0)
    have ho : ∀ c' i', (c', i') ≠ (c0, i0) → cel Γ (up3 σ c0 i0 j.toNat x) c' i' = cel Γ σ c' i' := fun c' i' hne => cel_congr (fun k => by unfold up3; rw [if_neg (fun z => hne (by rw [z.1, z.2.1]))])
    rcases hcc with rfl | rfl
    · obtain ⟨q0, hq0⟩ := mem_dom (c := 10) (by omega) h2
      refine va_iast hx hb hA.2.2.1 hA.1 hA.2.1 hS q0 0 (wsl_get Γ σ hq0) rfl hin hd (fun H1 locs1 hP1 hD1 hS1 => ?_)
      rw [i32_cl h3 h6] at hP1 hD1
      have hw : (wsl Γ σ).set q0 (Γ.2.2.1 10 i0, .inl (Γ.2.1 0, 10, .inl (upd (fun k => Int32.ofInt (σ 10 i0 k)) j.toNat (Int32.ofInt x)))) = wsl Γ (up3 σ 10 i0 j.toNat x) := by
        rw [← wsl_set hA.2.1 hq0 ho]
        congr 3
        show _ = (Γ.2.1 0, 10, Sum.inl (fun k => Int32.ofInt (up3 σ 10 i0 j.toNat x 10 i0 k)))
        rw [upd_up3]
      exact hN _ _ _ _ _ h5 H1 locs1 la hS1 (wa_put hbase hA hS hS1 (hw ▸ hP1) (hw ▸ hD1)) hl hn
    · obtain ⟨q0, hq0⟩ := mem_dom (c := 12) (by omega) h2
      refine va_iast hx hb hA.2.2.1 hA.1 hA.2.1 hS q0 0 (wsl_get Γ σ hq0) rfl hin hd (fun H1 locs1 hP1 hD1 hS1 => ?_)
      rw [i32_cl h3 h6] at hP1 hD1
      have hw : (wsl Γ σ).set q0 (Γ.2.2.1 12 i0, .inl (Γ.2.1 0, alen 12 i0, .inl (upd (fun k => Int32.ofInt (σ 12 i0 k)) j.toNat (Int32.ofInt x)))) = wsl Γ (up3 σ 12 i0 j.toNat x) := by
        rw [← wsl_set hA.2.1 hq0 ho]
        congr 3
        show _ = (Γ.2.1 0, alen 12 i0, Sum.inl (fun k => Int32.ofInt (up3 σ 12 i0 j.toNat x 12 i0 k)))
        rw [upd_up3]
      exact hN _ _ _ _ _ h5 H1 locs1 la hS1 (wa_put hbase hA hS hS1 (hw ▸ hP1) (hw ▸ hD1)) hl hn
  -- bastore
  · obtain ⟨rfl, h⟩ := h
    obtain ⟨x, j, c0, i0, r, rfl, rfl, hbx, h2, h3, h4, h5⟩ := siir_v h
    intro H locs la hS hA hl hn
    have h6 : j < 2147483648 := by have := alen_le 13 i0; omega
    have ho : ∀ c' i', (c', i') ≠ (13, i0) → cel Γ (up3 σ 13 i0 j.toNat x) c' i' = cel Γ σ c' i' := fun c' i' hne => cel_congr (fun k => by unfold up3; rw [if_neg (fun z => hne (by rw [z.1, z.2.1]))])
    obtain ⟨q0, hq0⟩ := mem_dom (c := 13) (by omega) h2
    refine va_zast hx hb hA.2.2.1 hA.1 hA.2.1 hS q0 1 (wsl_get Γ σ hq0) rfl (i32_in h3 h4 (alen_le 13 i0)) hd (fun H1 locs1 hP1 hD1 hS1 => ?_)
    have hnb : vp_nar .boolean (Int32.ofInt x) = Int32.ofInt x := by rcases hbx with hbx | hbx <;> subst hbx <;> rfl
    rw [i32_cl h3 h6, hnb] at hP1 hD1
    have hw : (wsl Γ σ).set q0 (Γ.2.2.1 13 i0, .inl (Γ.2.1 1, 80, .inl (upd (fun k => Int32.ofInt (σ 13 i0 k)) j.toNat (Int32.ofInt x)))) = wsl Γ (up3 σ 13 i0 j.toNat x) := by
      rw [← wsl_set hA.2.1 hq0 ho]
      congr 3
      show _ = (Γ.2.1 1, 80, Sum.inl (fun k => Int32.ofInt (up3 σ 13 i0 j.toNat x 13 i0 k)))
      rw [upd_up3]
    exact hN _ _ _ _ _ h5 H1 locs1 la hS1 (wa_put hbase hA hS hS1 (hw ▸ hP1) (hw ▸ hD1)) hl hn
  -- lastore
  · obtain ⟨rfl, h⟩ := h
    obtain ⟨x, j, c0, i0, r, rfl, rfl, rfl, rfl, h5⟩ := slir_v h
    intro H locs la hS hA hl hn
    have ho : ∀ c' i', (c', i') ≠ (14, 0) → cel Γ (up3 σ 14 0 0 x) c' i' = cel Γ σ c' i' := fun c' i' hne => cel_congr (fun k => by unfold up3; rw [if_neg (fun z => hne (by rw [z.1, z.2.1]))])
    obtain ⟨q0, hq0⟩ := mem_dom (c := 14) (i := 0) (by omega) (by decide)
    refine va_last hx hb hA.2.2.1 hA.1 hA.2.1 hS q0 4 (wsl_get Γ σ hq0) rfl (i32_in (n := 1) (by omega) (by omega) (by omega)) hd (fun H1 locs1 hP1 hD1 hS1 => ?_)
    have hw : (wsl Γ σ).set q0 (Γ.2.2.1 14 0, .inl (Γ.2.1 4, 1, .inr (.inl (vp_updL (fun k => Int64.ofInt (σ 14 0 k)) (Int32.ofInt 0).toNatClampNeg (Int64.ofInt x))))) = wsl Γ (up3 σ 14 0 0 x) := by
      rw [← wsl_set hA.2.1 hq0 ho]
      congr 3
      show _ = (Γ.2.1 4, 1, Sum.inr (Sum.inl (fun k => Int64.ofInt (up3 σ 14 0 0 x 14 0 k))))
      have e0 : (Int32.ofInt 0).toNatClampNeg = 0 := rfl
      rw [e0]
      congr 3
      refine congrArg Sum.inl (funext fun k => ?_)
      unfold vp_updL up3
      by_cases hk : k = 0
      · subst hk; simp
      · simp [hk]
    exact hN _ _ _ _ _ h5 H1 locs1 la hS1 (wa_put hbase hA hS hS1 (hw ▸ hP1) (hw ▸ hD1)) hl hn
  -- aastore
  · obtain ⟨rfl, h⟩ := h
    obtain ⟨vc, v, j, c0, i0, r, rfl, hcc, hv, h2, h3, h4, h5⟩ := srir_v h
    intro H locs la hS hA hl hn
    have h6 : j < 2147483648 := by have := alen_le c0 i0; omega
    have hin : vp_in (Int32.ofInt j) (alen c0 i0) := i32_in h3 h4 (alen_le c0 i0)
    have ho : ∀ c' i', (c', i') ≠ (c0, i0) → cel Γ (up3 σ c0 i0 j.toNat v) c' i' = cel Γ σ c' i' := fun c' i' hne => cel_congr (fun k => by unfold up3; rw [if_neg (fun z => hne (by rw [z.1, z.2.1]))])
    rcases hcc with ⟨rfl, rfl⟩ | ⟨rfl, rfl⟩
    · obtain ⟨q0, hq0⟩ := mem_dom (c := 9) (by omega) h2
      obtain ⟨q1, hq1⟩ := mem_dom (c := 2) (by omega) hv
      refine va_astq hx hb hA.2.2.1 hA.1 hA.2.1 hS q0 3 q1 2 (r := (RX2, TX2, 6)) (wsl_get Γ σ hq0) rfl (wsl_get Γ σ hq1) rfl hin hd (fun H1 locs1 hP1 hD1 hS1 => ?_)
      rw [i32_cl h3 h6] at hP1 hD1
      have hw : (wsl Γ σ).set q0 (Γ.2.2.1 9 i0, .inl (Γ.2.1 3, 24, .inr (.inr (.inr (.inr (va_up (fun k => some (Γ.2.2.1 2 (σ 9 i0 k).toNat)) j.toNat (some (Γ.2.2.1 2 v)))))))) = wsl Γ (up3 σ 9 i0 j.toNat v) := by
        rw [← wsl_set hA.2.1 hq0 ho]
        congr 3
        show _ = (Γ.2.1 3, 24, Sum.inr (Sum.inr (Sum.inr (Sum.inr (fun k => some (Γ.2.2.1 2 (up3 σ 9 i0 j.toNat v 9 i0 k).toNat))))))
        rw [vaup_up3]
      exact hN _ _ _ _ _ h5 H1 locs1 la hS1 (wa_put hbase hA hS hS1 (hw ▸ hP1) (hw ▸ hD1)) hl hn
    · obtain ⟨q0, hq0⟩ := mem_dom (c := 11) (by omega) h2
      obtain ⟨q1, hq1⟩ := mem_dom (c := 1) (by omega) hv
      refine va_astq hx hb hA.2.2.1 hA.1 hA.2.1 hS q0 2 q1 1 (r := (RX1, TX1, 8)) (wsl_get Γ σ hq0) rfl (wsl_get Γ σ hq1) rfl hin hd (fun H1 locs1 hP1 hD1 hS1 => ?_)
      rw [i32_cl h3 h6] at hP1 hD1
      have hw : (wsl Γ σ).set q0 (Γ.2.2.1 11 i0, .inl (Γ.2.1 2, 4, .inr (.inr (.inr (.inr (va_up (fun k => some (Γ.2.2.1 1 (σ 11 i0 k).toNat)) j.toNat (some (Γ.2.2.1 1 v)))))))) = wsl Γ (up3 σ 11 i0 j.toNat v) := by
        rw [← wsl_set hA.2.1 hq0 ho]
        congr 3
        show _ = (Γ.2.1 2, 4, Sum.inr (Sum.inr (Sum.inr (Sum.inr (fun k => some (Γ.2.2.1 1 (up3 σ 11 i0 j.toNat v 11 i0 k).toNat))))))
        rw [vaup_up3]
      exact hN _ _ _ _ _ h5 H1 locs1 la hS1 (wa_put hbase hA hS hS1 (hw ▸ hP1) (hw ▸ hD1)) hl hn
  -- arraylength
  · obtain ⟨rfl, h⟩ := h
    obtain ⟨c0, i0, r, rfl, h9⟩ := s1r_v h
    intro H locs la hS hA hl hn
    by_cases hc : c0 = 20
    · subst hc
      have h9 := h9.1 rfl
      split at h9
      · rename_i q hq
        obtain ⟨g1, xs, g2, g3, g4, g5, g6⟩ := hsc q hq
        have e1 : cv Γ (vr 20 i0) = .ref (Γ.2.2.1 20 0) := by show Value.ref (Γ.2.2.1 20 i0) = _; rw [g6 i0]
        show W p l e R s m args below meth c H locs _ _ Q (F0 m pc la (cv Γ (vr 20 i0) :: _))
        rw [e1]
        refine va_slen hx hb g3 g4 g5 hS hd ?_
        rw [show Int32.ofNat q.1 = Int32.ofInt (q.1 : Int) from Int32.ofInt_eq_ofNat.symm]
        exact hN _ _ _ _ _ h9 H locs la hS hA hl hn
      · exact h9.elim
    · obtain ⟨h1, h2, h3, h4⟩ := h9.2 hc
      obtain ⟨q0, hq0⟩ := mem_dom h2 h3
      have e2 : Int32.ofNat (alen c0 i0) = Int32.ofInt (alen c0 i0 : Int) := Int32.ofInt_eq_ofNat.symm
      rcases (show c0 = 9 ∨ c0 = 10 ∨ c0 = 11 ∨ c0 = 12 ∨ c0 = 13 ∨ c0 = 14 by omega) with h | h | h | h | h | h <;> subst h
      · exact va_alen hx hb hA.2.2.1 hA.1 q0 3 (wsl_get Γ σ hq0) rfl e2 hd (hN _ _ _ _ _ h4 H locs la hS hA hl hn)
      · exact va_alen hx hb hA.2.2.1 hA.1 q0 0 (wsl_get Γ σ hq0) rfl e2 hd (hN _ _ _ _ _ h4 H locs la hS hA hl hn)
      · exact va_alen hx hb hA.2.2.1 hA.1 q0 2 (wsl_get Γ σ hq0) rfl e2 hd (hN _ _ _ _ _ h4 H locs la hS hA hl hn)
      · exact va_alen hx hb hA.2.2.1 hA.1 q0 0 (wsl_get Γ σ hq0) rfl e2 hd (hN _ _ _ _ _ h4 H locs la hS hA hl hn)
      · exact va_alen hx hb hA.2.2.1 hA.1 q0 1 (wsl_get Γ σ hq0) rfl e2 hd (hN _ _ _ _ _ h4 H locs la hS hA hl hn)
      · exact va_alen hx hb hA.2.2.1 hA.1 q0 4 (wsl_get Γ σ hq0) rfl e2 hd (hN _ _ _ _ _ h4 H locs la hS hA hl hn)
  -- ldc2_w
  · obtain ⟨rfl, h⟩ := h
    split at h
    · rename_i q hq
      intro H locs la hS hA hl hn
      exact lv_ldc2 hx hb hown (hts _ (hlt _ (lookup_mem hq))) hd (hN _ _ _ _ _ h H locs la hS hA hl hn)
    · exact h.elim
  -- invokevirtual
  · obtain ⟨rfl, h⟩ := h
    exact call_f2 hx hb hml hown hts hws hcs hR hX hN hd h (by intro q hq hz; rw [if_neg (by simpa using hz)]) 
  -- invokestatic
  · obtain ⟨rfl, h⟩ := h
    exact call_f2 hx hb hml hown hts hws hcs hR hX hN hd h (by intro q hq hz; rw [if_pos (by simpa using hz)])
  -- new
  · obtain ⟨rfl, h⟩ := h
    split at h
    · rename_i q hq
      exact htt (_, _) (lookup_mem hq) _ _ _ _ _ hd h.1 h.2.1 h.2.2
    · exact h.elim
  -- ireturn
  · obtain ⟨rfl, hk, h⟩ := h
    obtain ⟨v, rfl, h9⟩ := rt_v h
    split at h9
    · intro H locs la hS hA hl hn
      exact hKi _ _ _ _ _ _ _ hd hk h9.1 h9.2 hS hA
    · exact h9.elim
  -- lreturn
  · obtain ⟨rfl, hk, h⟩ := h
    obtain ⟨v, rfl, h9⟩ := rt_v h
    split at h9
    · intro H locs la hS hA hl hn
      exact hKl _ _ _ _ _ _ _ hd hk h9.1 h9.2 hS hA
    · exact h9.elim
  -- dreturn
  · obtain ⟨rfl, hk, h⟩ := h
    obtain ⟨v, rfl, h9⟩ := rt_v h
    split at h9
    · intro H locs la hS hA hl hn
      exact hKd _ _ _ _ _ _ _ hd hk h9.1 h9.2 hS hA
    · exact h9.elim
  -- return
  · obtain ⟨rfl, hk, rfl, h1, h2⟩ := h
    intro H locs la hS hA hl hn
    exact hKv _ _ _ _ _ _ hd hk h1 h2 hS hA
  · exact h.elim
theorem sound2 (hx : p.tables.exec = Jvm.exec) (hb : c.code = cc) (hml : c.maxLocals = nL) (hown : s.vm.findClass own = some m.cls) (hts : ∀ w ∈ lwA, w.before args s = true) (hws : WS Γ s) (hbase : Γ.2.2.2 ≤ s.heap.size)
    (hft : ∀ q ∈ P.1, FieldOK own q.1 q.2.1 q.2.2)
    (hcs : ∀ q ∈ P.2.1, CallAt s l Γ own R (if q.2.2.2.1 = 0 then .invokestatic q.1 else .invokevirtual q.1) q.2.2.2.1 q.2.1 q.2.2.1 q.2.2.2.2)
    (hlt : ∀ q ∈ P.2.2.2.1, Cond.constantLong own q.1 (Int64.ofInt q.2) ∈ lwA)
    (htt : ∀ (q : Nat × Nat), q ∈ P.2.2.1 → ∀ (idx : Nat) ls st σ k, decode cc q.1 = .ok (.new idx, 3) → st = [] → k + 1 ≤ P.2.2.2.2.2.1 → X q.1 q.2 ls σ (k + 1) → Gs p l e R s m args below meth c Q Γ nL b0 b1 q.1 ls st σ k)
    (hR : b0 + P.2.2.2.2.2.1 ≤ R.cells ∧ b1 + 6 * P.2.2.2.2.2.1 ≤ R.slots)
    (hX : ∀ pc n ls σ k H locs la rest q9 ce, X pc n ls σ k → va_S (gA Γ) s.heap H locs → WA Γ σ s H → lv_has la nL (asL Γ 0 ls) → ls.length = nL → H[q9]? = some ce → ce.vm = .none → s.vm.findClass (exn n) = some ce.cls → vx_W p l e R s m args below meth c H locs (b0 + k) (b1 + 6 * k) Q (F0 m pc la rest) q9)
    (hKi : ∀ x σ k H locs la pc, decode cc pc = .ok (.ireturn, 1) → k ≤ P.2.2.2.2.2.1 → (P.2.2.2.2.1 = 1 ∨ P.2.2.2.2.1 = 2 ∧ bitOK x) → K (some (vi x)) σ → va_S (gA Γ) s.heap H locs → WA Γ σ s H → W p l e R s m args below meth c H locs (b0 + k) (b1 + 6 * k) Q (F0 m pc la [.int (Int32.ofInt x)]))
    (hKl : ∀ x σ k H locs la pc, decode cc pc = .ok (.lreturn, 1) → k ≤ P.2.2.2.2.2.1 → P.2.2.2.2.1 = 3 → K (some (vl x)) σ → va_S (gA Γ) s.heap H locs → WA Γ σ s H → W p l e R s m args below meth c H locs (b0 + k) (b1 + 6 * k) Q (F0 m pc la [.long (Int64.ofInt x)]))
    (hKd : ∀ x σ k H locs la pc, decode cc pc = .ok (.dreturn, 1) → k ≤ P.2.2.2.2.2.1 → P.2.2.2.2.1 = 4 → K (some (vd x)) σ → va_S (gA Γ) s.heap H locs → WA Γ σ s H → W p l e R s m args below meth c H locs (b0 + k) (b1 + 6 * k) Q (F0 m pc la [.double x]))
    (hKv : ∀ σ k H locs la pc, decode cc pc = .ok (.return_, 1) → k ≤ P.2.2.2.2.2.1 → P.2.2.2.2.1 = 0 → K none σ → va_S (gA Γ) s.heap H locs → WA Γ σ s H → W p l e R s m args below meth c H locs (b0 + k) (b1 + 6 * k) Q (F0 m pc la []))
    (hsc : ∀ q, P.2.2.2.2.2.2 = some q → q.1 ≤ 2147483647 ∧ ∃ xs : Nat → Int32, (∀ j, (xs j).toInt = q.2 j) ∧ va_X (Γ.2.2.1 20 0) q.1 xs s s.heap ∧ Γ.2.2.1 20 0 < s.heap.size ∧ ¬ gA Γ (Γ.2.2.1 20 0) ∧ ∀ i, Γ.2.2.1 20 i = Γ.2.2.1 20 0) :
    Clo P K X cc (Gs p l e R s m args below meth c Q Γ nL b0 b1) := by
  intro N hN pc ls st σ k h
  unfold stepd at h
  split at h
  · rename_i q hq
    exact sound_f2 hx hb hml hown hts hws hbase hft hcs hlt htt hR hX hKi hKl hKd hKv hsc hN hq h
  · exact h.elim
end SND
