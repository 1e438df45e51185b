theorem wa_ext {Γ : Ga} {σ : Sto} {s : State} {H H1 : Heap} (h : WA Γ σ s H) (h1 : H.size ≤ H1.size) (h2 : ∀ q : Nat, q < H.size → H1[q]? = H[q]?) : WA Γ σ s H1 := by
  obtain ⟨a, b, c, d, e, f⟩ := h
  refine ⟨a.kept fun k q hk => ?_, b, c, d.kept fun q hq _ => h2 q hq, e.kept fun q hq _ => h2 q hq, by omega⟩
  have g := a k q hk
  unfold va_at at g
  apply h2
  split at g
  · exact (Array.getElem?_eq_some_iff.mp g).1
  · obtain ⟨r, -, cell, q1, -⟩ := g
    exact (Array.getElem?_eq_some_iff.mp q1).1
def exN : List String := ["java/lang/RuntimeException", "java/lang/Exception"]
theorem at_0 : ∀ w ∈ (vx_atS RX7 245 (exn 0) exN).filter goodWord, w ∈ lwA := by decide +kernel
theorem at_1 : ∀ w ∈ (vx_atS RX7 56 (exn 1) exN).filter goodWord, w ∈ lwA := by decide +kernel
theorem at_2 : ∀ w ∈ (vx_atS RX7 240 (exn 2) exN).filter goodWord, w ∈ lwA := by decide +kernel
theorem an_0 : ∀ w ∈ (vx_atS RX7 245 (exn 0) exN).filter (fun w => !goodWord w), w ∈ lwF := by decide +kernel
theorem an_1 : ∀ w ∈ (vx_atS RX7 56 (exn 1) exN).filter (fun w => !goodWord w), w ∈ lwF := by decide +kernel
theorem an_2 : ∀ w ∈ (vx_atS RX7 240 (exn 2) exN).filter (fun w => !goodWord w), w ∈ lwF := by decide +kernel
theorem ao_0 : ∀ w ∈ Cond.classLink RX7 241 (exn 0) :: Cond.initialized (exn 0) :: vx_atS RX7 245 (exn 0) exN, vx_ot w = true := by decide +kernel
theorem ao_1 : ∀ w ∈ Cond.classLink RX7 52 (exn 1) :: Cond.initialized (exn 1) :: vx_atS RX7 56 (exn 1) exN, vx_ot w = true := by decide +kernel
theorem ao_2 : ∀ w ∈ Cond.classLink RX7 236 (exn 2) :: Cond.initialized (exn 2) :: vx_atS RX7 240 (exn 2) exN, vx_ot w = true := by decide +kernel
theorem ak_0 : Cond.classLink RX7 241 (exn 0) ∈ lwA ∧ Cond.initialized (exn 0) ∈ lwA := by decide +kernel
theorem ak_1 : Cond.classLink RX7 52 (exn 1) ∈ lwA ∧ Cond.initialized (exn 1) ∈ lwA := by decide +kernel
theorem ak_2 : Cond.classLink RX7 236 (exn 2) ∈ lwA ∧ Cond.initialized (exn 2) ∈ lwA := by decide +kernel
/-- a method's one place that throws -/
theorem thr_of {l : Launch} {Γ : Ga} {cc : ByteArray} {maxL mc : Nat} {rm : Room} {P : Par} {n ik is ic pc0 : Nat} {text : String} (hfl : l.stackTraces = false) (hn : n < 3) (hfit : Bundle.fit (exn n) = true)
    (hk : Cond.classLink RX7 ik (exn n) ∈ lwA ∧ Cond.initialized (exn n) ∈ lwA) (ha : ∀ w ∈ (vx_atS RX7 ic (exn n) exN).filter goodWord, w ∈ lwA) (hb : ∀ w ∈ (vx_atS RX7 ic (exn n) exN).filter (fun w => !goodWord w), w ∈ lwF)
    (hg : ∀ w ∈ Cond.classLink RX7 ik (exn n) :: Cond.initialized (exn n) :: vx_atS RX7 ic (exn n) exN, vx_ot w = true)
    (hstr : ∀ s, WS Γ s → ∃ a, vk_R RX7 is text a s)
    (d0 : decode cc pc0 = .ok (.new ik, 3)) (d3 : decode cc (pc0 + 3) = .ok (.dup, 1)) (d4 : decode cc (pc0 + 4) = .ok (.ldc is, 2)) (d6 : decode cc (pc0 + 6) = .ok (.invokespecial ic, 3)) (d9 : decode cc (pc0 + 9) = .ok (.athrow, 1))
    (hP : P.2.2.1 = [(pc0, n)]) (hR : 5 < rm.frames ∧ 90 ≤ rm.locals ∧ rm.cells = mc ∧ rm.slots = 6 * mc)
    {p : Program} {e : Env} {s : State} {m : MethodId} {args : Array Value} {below : List Frame} {meth : Method} {c : Code} {K : Option AV → Sto → Prop} {KX : Nat → Sto → Prop} (hx : p.tables.exec = Jvm.exec) (hbb : c.code = cc) (hml : c.maxLocals = maxL) (hown : s.vm.findClass RX7 = some m.cls) (hts : ∀ w ∈ lwA, w.before args s = true) (hW : WS Γ s) (hbase : Γ.2.2.2 ≤ s.heap.size) (hlocks : meth.locks = false) (hno : ∀ x ∈ c.exceptionTable.toList, False)
    (q : Nat × Nat) (hq : q ∈ P.2.2.1) (idx : Nat) (ls st : List AV) (σ : Sto) (k : Nat) (hd : decode cc q.1 = .ok (.new idx, 3)) (hst : st = []) (hkm : k + 1 ≤ mc) (hX : k + 1 ≤ mc ∧ KX q.2 σ) (hA0 : ∃ σ0, WA Γ σ0 s s.heap) : Gs p l e rm s m args below meth c (vx_MQ below (Qr Γ K) (Xr Γ KX) args s mc (6 * mc) (gA Γ)) Γ maxL 0 0 q.1 ls st σ k := by
  rw [hP] at hq
  have eq : q = (pc0, n) := List.mem_singleton.mp hq
  subst eq hst
  intro H locs la hS hA hl hn'
  obtain ⟨σ0, hA0⟩ := hA0
  obtain ⟨a, hstr⟩ := hstr s hW
  have hat : ∀ w ∈ vx_atS RX7 ic (exn n) exN, w.before args s = true := vx_hat (fun w hw => hts w (ha w hw)) hb (fun w hw => lwF_alike (Vm.Alike.refl s.vm) hw (hW.2.2.2.2.2 w hw))
  refine vx_throwS (names := exN) (is := is) (ik := ik) (ic := ic) (sa := a) (cls := exn n) (text := text) hx hbb hfl hown hfit (by decide +kernel) (hts _ hk.1) (hts _ hk.2) hstr hat hg hA0.2.2.2.1 hA0.2.2.2.2.1 hS (by rw [hl.1, hml]) d0 d3 d4 d6 d9 (fun x h => (hno x h).elim) hR.1 ?_ ?_ ?_ hlocks (fun t ht h1 h2 => ⟨⟨n, σ, rfl, hX.2, wa_ext (wa_moved ht hA) h1 h2⟩, ⟨by have := hS.1; omega, fun q hq hg => by rw [h2 q (by have := hS.1; omega)]; exact hS.2.1 q hq hg⟩⟩) hS.2.2 ?_ ?_
  · have := hR.2.1
    show 0 + (13 * (2 + 1) + 43) ≤ rm.locals
    omega
  · rw [hR.2.2.1]; omega
  · rw [hR.2.2.2]; omega
  · omega
  · omega
