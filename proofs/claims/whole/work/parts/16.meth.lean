theorem asL_rep {Γ : Ga} : ∀ (n j : Nat), asL Γ j (List.replicate n vj) = [] := by
  intro n
  induction n with
  | zero => intro j; rfl
  | succ n ih => intro j; exact ih (j + 1)
theorem asL_ent {Γ : Ga} {n : Nat} : ∀ (a : List AV) (j : Nat), (∀ v ∈ a, nj v) → asL Γ j (entL a ++ List.replicate n vj) = lv_args j (a.map (cv Γ)) := by
  intro a
  induction a with
  | nil => intro j _; exact asL_rep n j
  | cons v r ih =>
    intro j h
    have h1 := fun j => ih j (fun v hv => h v (List.mem_cons_of_mem _ hv))
    have h2 := h v List.mem_cons_self
    rcases v with x | x | x | x | x
    · exact congrArg _ (h1 (j + 1))
    · exact congrArg _ (h1 (j + 2))
    · exact congrArg _ (h1 (j + 1))
    · exact congrArg _ (h1 (j + 2))
    · exact h2.elim
theorem lg_ent {Γ : Ga} : ∀ (a : List AV), (∀ v ∈ a, nj v) → (lg_sl (a.map (cv Γ))).length = (entL a).length := by
  intro a
  induction a with
  | nil => intro _; rfl
  | cons v r ih =>
    intro h
    have h1 := ih (fun v hv => h v (List.mem_cons_of_mem _ hv))
    have h2 := h v List.mem_cons_self
    rcases v with x | x | x | x | x
    · show (_ :: lg_sl (r.map (cv Γ))).length = (_ :: entL r).length
      simp only [List.length_cons, h1]
    · show (_ :: _ :: lg_sl (r.map (cv Γ))).length = (_ :: _ :: entL r).length
      simp only [List.length_cons, h1]
    · show (_ :: lg_sl (r.map (cv Γ))).length = (_ :: entL r).length
      simp only [List.length_cons, h1]
    · show (_ :: _ :: lg_sl (r.map (cv Γ))).length = (_ :: _ :: entL r).length
      simp only [List.length_cons, h1]
    · exact h2.elim
def retOf (rk : Nat) : Option FieldType := match rk with
  | 0 => none | 1 => some .int | 2 => some .boolean | 3 => some .long | _ => some .double
/-- a method's contract out of its body, told by names -/
theorem Cn_of {l : Launch} {Γ : Ga} {y : MethodName} {cc : ByteArray} {maxL mc : Nat} {rm : Room} {sp : Spec} {P : Par} {own : String}
    (hy : plainName y.cls = true) (hmc : P.2.2.2.2.2.1 = mc) (hscr : P.2.2.2.2.2.2 = none) (hrk : P.2.2.2.2.1 ≤ 4) (hown : y.cls = own) (hrm : rm.cells = mc ∧ rm.slots = 6 * mc)
    (hft : ∀ q ∈ P.1, FieldOK own q.1 q.2.1 q.2.2)
    (hcs : ∀ q ∈ P.2.1, CallOK l Γ own rm (if q.2.2.2.1 = 0 then .invokestatic q.1 else .invokevirtual q.1) q.2.2.2.1 q.2.1 q.2.2.1 q.2.2.2.2)
    (hlt : ∀ q ∈ P.2.2.2.1, Cond.constantLong own q.1 (Int64.ofInt q.2) ∈ lwA)
    (htt : ∀ {p : Program} {e : Env} {s : State} {m : MethodId} {args : Array Value} {below : List Frame} {meth : Method} {c : Code} {K : Option AV → Sto → Prop} {KX : Nat → Sto → Prop}, p.tables.exec = Jvm.exec → c.code = cc → c.maxLocals = maxL → s.vm.findClass own = some m.cls → (∀ w ∈ lwA, w.before args s = true) → WS Γ s → WA Γ (fun _ _ _ => 0) s s.heap ∨ True → Γ.2.2.2 ≤ s.heap.size → meth.locks = false → (∀ x ∈ c.exceptionTable.toList, False) → ∀ (q : Nat × Nat), q ∈ P.2.2.1 → ∀ (idx : Nat) ls st σ k, decode cc q.1 = .ok (.new idx, 3) → st = [] → k + 1 ≤ mc → (k + 1 ≤ mc ∧ KX q.2 σ) → (∃ σ0, WA Γ σ0 s s.heap) → Gs p l e rm s m args below meth c (vx_MQ below (Qr Γ K) (Xr Γ KX) args s mc (6 * mc) (gA Γ)) Γ maxL 0 0 q.1 ls st σ k)
    (hsem : Sem P cc maxL sp) : Cn l Γ y (wsy y cc maxL (retOf P.2.2.2.2.1)) rm mc sp := by
  intro a σ K KX hsp
  obtain ⟨hnj, hlen, hG⟩ := hsem a σ K KX hsp
  refine vx_ofW (cc := cc) (maxL := maxL) (ret := retOf P.2.2.2.2.1) hy rfl ?_
  intro p e s m args below meth c s₁ B hml hno hpc
  obtain ⟨rfl, hA, hW⟩ := hpc
  have hx := B.exec
  have hb := B.bytes
  have hr := B.returns
  have hts0 := atoms_spec (ws := wsy y cc maxL (retOf P.2.2.2.2.1)) B.pre
  have hts : ∀ w ∈ lwA, w.before (a.map (cv Γ)).toArray s = true := fun w hw => hts0 w (List.mem_cons_of_mem _ hw)
  have hown2 : s.vm.findClass own = some m.cls := hown ▸ findClass_of_methodNamed B.named
  have hlocks := B.notSynchronized
  have hbase : Γ.2.2.2 ≤ s.heap.size := hA.2.2.2.2.2
  have hl := lv_entry (a.map (cv Γ)) (n := maxL) (by rw [lg_ent a hnj]; exact hlen)
  rw [lg_entry_eq]
  rw [← asL_ent (n := maxL - (entL a).length) a 0 hnj] at hl
  refine hG (Gs p l e rm s m (a.map (cv Γ)).toArray below meth c (vx_MQ below (Qr Γ K) (Xr Γ KX) (a.map (cv Γ)).toArray s mc (6 * mc) (gA Γ)) Γ maxL 0 0) (sound (own := own) hx hb hml hown2 hts hW hbase hft hcs hlt ?_ ?_ ?_ ?_ ?_ ?_ ?_ ?_) s.heap [] _ va_S.rf hA hl ?_
  · intro q hq idx ls st σ k hd hst hk hX
    exact htt hx hb hml hown2 hts hW (Or.inr trivial) hbase hlocks hno q hq idx ls st σ k hd hst (hmc ▸ hk) (hmc ▸ hX) ⟨_, hA⟩
  · rw [hmc]; exact ⟨by rw [hrm.1]; omega, by rw [hrm.2]; omega⟩
  · intro pc n ls σ k H locs la rest q9 ce hX hS hA1 hl1 hn1 hce hcv hcl
    have hk : k ≤ mc := hmc ▸ hX.1
    exact vx_out (by intro x hx9; exact (hno x hx9).elim) hlocks hce hcv hcl (fun t ht hal => ⟨⟨n, σ, rfl, hX.2, by rw [ht]; exact wa_moved hal hA1⟩, hS.F ht⟩) hS.2.2 (by omega) (by omega)
  · intro x σ k H locs la pc hd hk hrk1 hK hS hA1
    have hk : k ≤ mc := hmc ▸ hk
    refine W.widen (k := mc) (n := 6 * mc) (by omega) (by omega) (vx_ret ?_)
    have hq : ∀ t : State, t.heap = H → s.WarmedH t.vm → Qr Γ K (a.map (cv Γ)).toArray s (.returned (some (.int (Int32.ofInt x)))) t := fun t ht hw => ⟨⟨some (vi x), σ, rfl, hK, by rw [ht]; exact wa_moved hw.alike hA1⟩, hS.F ht⟩
    rcases hrk1 with h1 | ⟨h1, h2⟩
    · exact W.iret hx hb (by rw [hr, h1]; rfl) hq hS.2.2 hd
    · exact W.zret (ty := .boolean) hx hb (by rw [hr, h1]; rfl) (nar_b h2).1 hq hS.2.2 hd
  · intro x σ k H locs la pc hd hk hrk1 hK hS hA1
    have hk : k ≤ mc := hmc ▸ hk
    refine W.widen (k := mc) (n := 6 * mc) (by omega) (by omega) (vx_ret ?_)
    exact W.lret hx hb (by rw [hr, hrk1]; rfl) (fun t ht hw => ⟨⟨some (vl x), σ, rfl, hK, by rw [ht]; exact wa_moved hw.alike hA1⟩, hS.F ht⟩) hS.2.2 hd
  · intro x σ k H locs la pc hd hk hrk1 hK hS hA1
    have hk : k ≤ mc := hmc ▸ hk
    refine W.widen (k := mc) (n := 6 * mc) (by omega) (by omega) (vx_ret ?_)
    exact W.dret hx hb (by rw [hr, hrk1]; rfl) (fun t ht hw => ⟨⟨some (vd x), σ, rfl, hK, by rw [ht]; exact wa_moved hw.alike hA1⟩, hS.F ht⟩) hS.2.2 hd
  · intro σ k H locs la pc hd hk hrk1 hK hS hA1
    have hk : k ≤ mc := hmc ▸ hk
    refine W.widen (k := mc) (n := 6 * mc) (by omega) (by omega) (vx_ret ?_)
    exact W.vret hx hb (by rw [hr, hrk1]; rfl) (fun t ht hw => ⟨⟨none, σ, rfl, hK, by rw [ht]; exact wa_moved hw.alike hA1⟩, hS.F ht⟩) hS.2.2 hd
  · intro q hq; rw [hscr] at hq; cases hq
  · unfold ent; rw [List.length_append, List.length_replicate]; omega
