/-- the exceptions' classes are no one of another's -/
def NC (s : State) : Prop := ∀ a b : Nat, exn a ≠ exn b → va_Nc (exn a) (exn b) s
theorem nc_alike {s t : State} (h : s.vm.Alike t.vm) (w : NC s) : NC t := fun a b hn => va_Nc.moved h (w a b hn)
def ckx (n : Nat) : Nat := match n with | 0 => 13 | 1 => 15 | _ => 21
/-- the handler at pc of exn n -/
def hnd : List (Nat × Nat × Nat × Nat) → Nat → Nat → Option Nat
  | [], _, _ => none
  | q :: r, pc, n => if q.1 ≤ pc ∧ pc < q.2.1 then (if q.2.2.2 = ckx n then some q.2.2.1 else hnd r pc n) else hnd r pc n
theorem hnd_c (a b h t : Nat) (r : List (Nat × Nat × Nat × Nat)) (pc n : Nat) : hnd ((a, b, h, t) :: r) pc n = if a ≤ pc ∧ pc < b then (if t = ckx n then some h else hnd r pc n) else hnd r pc n := rfl
theorem hnd_n (pc n : Nat) : hnd [] pc n = none := rfl
theorem exn_ck {n m : Nat} (h : ckx n = ckx m) : exn n = exn m := by
  match n, m with
  | 0, 0 => rfl
  | 1, 1 => rfl
  | 0, 1 => exact absurd h (by decide)
  | 1, 0 => exact absurd h (by decide)
  | 0, _ + 2 => exact absurd (show (13 : Nat) = 21 from h) (by decide)
  | 1, _ + 2 => exact absurd (show (15 : Nat) = 21 from h) (by decide)
  | _ + 2, 0 => exact absurd (show (21 : Nat) = 13 from h) (by decide)
  | _ + 2, 1 => exact absurd (show (21 : Nat) = 15 from h) (by decide)
  | _ + 2, _ + 2 => rfl
theorem ck_exn {n m : Nat} (h : ckx n ≠ ckx m) : exn n ≠ exn m := by
  match n, m with
  | 0, 0 => exact absurd rfl h
  | 1, 1 => exact absurd rfl h
  | 0, 1 => show ("java/lang/IllegalArgumentException" : String) ≠ "java/lang/IllegalStateException"; decide
  | 1, 0 => show ("java/lang/IllegalStateException" : String) ≠ "java/lang/IllegalArgumentException"; decide
  | 0, _ + 2 => show ("java/lang/IllegalArgumentException" : String) ≠ "java/lang/IndexOutOfBoundsException"; decide
  | 1, _ + 2 => show ("java/lang/IllegalStateException" : String) ≠ "java/lang/IndexOutOfBoundsException"; decide
  | _ + 2, 0 => show ("java/lang/IndexOutOfBoundsException" : String) ≠ "java/lang/IllegalArgumentException"; decide
  | _ + 2, 1 => show ("java/lang/IndexOutOfBoundsException" : String) ≠ "java/lang/IllegalStateException"; decide
  | _ + 2, _ + 2 => exact absurd rfl h
theorem wx_of (n : Nat) : Cond.classLink RL (ckx n) (exn n) ∈ lwA := by
  match n with
  | 0 => exact wx_0
  | 1 => exact wx_1
  | _ + 2 => exact wx_2
theorem lwF_x (n : Nat) : Cond.castable (exn n) (exn n) ∈ lwF := by
  match n with
  | 0 => exact List.mem_cons_self
  | 1 => exact List.mem_cons_of_mem _ List.mem_cons_self
  | _ + 2 => exact List.mem_cons_of_mem _ (List.mem_cons_of_mem _ List.mem_cons_self)
theorem ckx_ne0 (n : Nat) : ckx n ≠ 0 := by
  match n with
  | 0 => decide
  | 1 => decide
  | _ + 2 => show (21 : Nat) ≠ 0; decide
/-- a handler's catch -/
theorem hnd_ok {p : Program} {l : Launch} {e : Env} {R : Room} {s : State} {m : MethodId} {args : Array Value} {below : List Frame} {meth : Method} {c : Code} {H : Heap} {locs : List Loc} {cells slots : Nat} {Q : State → Prop} {pc n : Nat} {la : Array Slot} {rest : List Value} {q : Addr} {ce : Cell}
    (hown : s.vm.findClass RL = some m.cls) (hts : ∀ w ∈ lwA, w.before args s = true) (hNC : NC s) (hcs : (Cond.castable (exn n) (exn n)).before args s = true) (hcell : H[q]? = some ce) (hv : ce.vm = .none) (hcl : s.vm.findClass (exn n) = some ce.cls) {h : Nat} :
    ∀ (hh : List (Nat × Nat × Nat × Nat)) (pre : List ExceptionTableEntry), c.exceptionTable.toList = pre ++ tableOf hh → (∀ q ∈ hh, ∃ k, q.2.2.2 = ckx k) →
      (∀ z ∈ pre, covers z pc = false ∨ (z.catchType ≠ 0 ∧ ∃ nm : String, (Cond.classLink RL z.catchType nm).before args s = true ∧ va_Nc (exn n) nm s)) → hnd hh pc n = some h →
      W p l e R s m args below meth c H locs cells slots Q (F0 m h la [.ref q]) → vx_W p l e R s m args below meth c H locs cells slots Q (F0 m pc la rest) q := by
  intro hh
  induction hh with
  | nil => intro _ _ _ _ hq _; cases hq
  | cons a r ih =>
    intro pre hs hk hp hq hW
    obtain ⟨a0, a1, a2, a3⟩ := a
    obtain ⟨k, hk0⟩ := hk _ List.mem_cons_self
    have hk0 : a3 = ckx k := hk0
    have hr : ∀ q ∈ r, ∃ k, q.2.2.2 = ckx k := fun q hq => hk q (List.mem_cons_of_mem _ hq)
    have hs2 : c.exceptionTable.toList = (pre ++ [(⟨a0, a1, a2, a3⟩ : ExceptionTableEntry)]) ++ tableOf r := by
      rw [hs, List.append_assoc]; rfl
    rw [hnd_c] at hq
    by_cases hc : a0 ≤ pc ∧ pc < a1
    · rw [if_pos hc] at hq
      by_cases ht : a3 = ckx n
      · rw [if_pos ht] at hq
        have hq := Option.some.inj hq
        have hq : a2 = h := hq
        subst hq
        subst ht
        refine vx_catch (name := exn n) hown pre ⟨a0, a1, a2, ckx n⟩ (tableOf r) hs hp ?_ (ckx_ne0 n) (hts _ (wx_of n)) hcs hcell hv hcl hW
        show (decide (a0 ≤ pc) && decide (pc < a1)) = true
        rw [decide_eq_true hc.1, decide_eq_true hc.2]; rfl
      · rw [if_neg ht] at hq
        refine ih (pre ++ [⟨a0, a1, a2, a3⟩]) hs2 hr ?_ hq hW
        intro z hz
        rcases List.mem_append.mp hz with hz | hz
        · exact hp z hz
        · rw [List.mem_singleton.mp hz]
          refine Or.inr ⟨by rw [hk0]; exact ckx_ne0 k, exn k, by show (Cond.classLink RL a3 (exn k)).before args s = true; rw [hk0]; exact hts _ (wx_of k), hNC _ _ (ck_exn fun e => ht (by rw [hk0, e]))⟩
    · rw [if_neg hc] at hq
      refine ih (pre ++ [⟨a0, a1, a2, a3⟩]) hs2 hr ?_ hq hW
      intro z hz
      rcases List.mem_append.mp hz with hz | hz
      · exact hp z hz
      · rw [List.mem_singleton.mp hz]
        refine Or.inl ?_
        show (decide (a0 ≤ pc) && decide (pc < a1)) = false
        rcases Nat.lt_or_ge pc a0 with h1 | h1
        · rw [decide_eq_false (by omega)]; rfl
        · rw [decide_eq_false (p := pc < a1) (fun h2 => hc ⟨h1, h2⟩), Bool.and_false]
def PrH (Γ : Ga) (a : List AV) (σ : Sto) : Array Value → State → Prop := va_Pc (a.map (cv Γ)) (fun U => WA Γ σ U U.heap ∧ WS Γ U ∧ NC U)
def wsyH (y : MethodName) (cc : ByteArray) (maxL : Nat) (hh : List (Nat × Nat × Nat × Nat)) : List Cond := Cond.codeWith y cc maxL (some .int) hh :: lwA
def CnH (l : Launch) (Γ : Ga) (y : MethodName) (ws : List Cond) (rm : Room) (mc : Nat) (sp : Spec) : Prop := ∀ (a : List AV) (σ : Sto) (K : Option AV → Sto → Prop) (KX : Nat → Sto → Prop), sp a σ K KX → vx_Met l y ws rm (PrH Γ a σ) (Qr Γ K) (Xr Γ KX) mc (6 * mc) (gA Γ)
/-- what the body of a method with handlers owes -/
def SemH (P : Par) (hh : List (Nat × Nat × Nat × Nat)) (cc : ByteArray) (maxL : Nat) (sp : Spec) : Prop := ∀ (a : List AV) (σ : Sto) (K : Option AV → Sto → Prop) (KX : Nat → Sto → Prop), sp a σ K KX → (∀ v ∈ a, nj v) ∧ (entL a).length ≤ maxL ∧ ∀ G, Clo P K (fun pc n ls σ k => ∃ h, hnd hh pc n = some h ∧ ∀ q, G h ls [vr 21 q] σ k) cc G → G 0 (ent maxL a) [] σ 0
theorem prh_blind {Γ : Ga} {a : List AV} {σ : Sto} : FrameBlind (PrH Γ a σ) := by
  intro v U g mk h
  obtain ⟨h1, h2, h3, h4⟩ := h
  exact ⟨h1, wa_moved (t := U.calling g mk v) (Vm.Alike.refl U.vm) h2, ws_same (s := U) (t := U.calling g mk v) rfl h3, nc_alike (s := U) (t := U.calling g mk v) (Vm.Alike.refl U.vm) h4⟩
theorem prh_at {Γ : Ga} {a : List AV} {σ : Sto} {s U : State} {H : Heap} (hA : WA Γ σ s H) (hW : WS Γ s) (hN : NC s) (hU : U.heap = H) (hw : s.WarmedH U.vm) : PrH Γ a σ (a.map (cv Γ)).toArray U :=
  ⟨rfl, by rw [hU]; exact wa_moved hw.alike hA, ws_warm hw hW, nc_alike hw.alike hN⟩
theorem callSH_of {s : State} {l : Launch} {Γ : Ga} {own : String} {R rm : Room} {idx n mc maxL : Nat} {y : MethodName} {cc0 : ByteArray} {hh : List (Nat × Nat × Nat × Nat)} {sp : Spec} (hN : NC s) (hC : CnH l Γ y (wsyH y cc0 maxL hh) rm mc sp) (hrc : rm.cells = mc) (hrs : rm.slots = 6 * mc)
    (hw : ∀ w ∈ ([.methodLink own idx y, .static y, .initialized y.cls, .codeWith y cc0 maxL (some .int) hh] : List Cond), w ∈ lwA)
    (hd : y.cls ≠ "java/lang/invoke/MethodHandle" ∧ y.cls ≠ "java/lang/invoke/VarHandle" ∧ (parseMethodDescriptor y.desc).map (fun d => d.parameters.length) = some n) (hR : rm.frames + 1 ≤ R.frames ∧ 8 + (maxL + 11) + rm.locals ≤ R.locals) :
    CallAt s l Γ own R (.invokestatic idx) 0 n mc sp := by
  intro p e m args below meth c H locs cells slots cc nL pc la a rest σ K KX hfix hlen hrcv hsz hcat hdec hc1 hc2 hA hW hsp
  have hT : GoodIn lwA (va_wsS own idx y (wsyH y cc0 maxL hh)) := by
    refine goodIn_lwA fun w h => ?_
    unfold va_wsS wsyH at h
    rcases List.mem_append.mp h with h | h
    · exact hw w (List.mem_append_left [Cond.codeWith y cc0 maxL (some .int) hh] h)
    · rcases List.mem_cons.mp h with h | h
      · exact hw w (by rw [h]; simp)
      · exact h
  exact vx_runSX (hh := hh) (Ts := lwA) (As := a.map (cv Γ)) (rest := rest) hfix (hC _ σ K KX hsp) (vx_cwSW n hfix.2.2.2.2 hT rfl hrc hrs hd hR) ⟨prh_blind, fun U hU hw => prh_at hA hW hN hU hw⟩ rfl (by simpa using hlen) hsz rfl (lv_room hcat) hdec ⟨hc1, hc2⟩
/-- a contract of a static method with handlers, that gives an int, out of its body -/
theorem CnH_of {l : Launch} {Γ : Ga} {y : MethodName} {cc : ByteArray} {maxL mc : Nat} {rm : Room} {sp : Spec} {P : Par} {hh : List (Nat × Nat × Nat × Nat)}
    (hy : plainName y.cls = true) (hmc : P.2.2.2.2.2.1 = mc) (hscr : P.2.2.2.2.2.2 = none) (hrk : P.2.2.2.2.1 = 1) (hown : y.cls = RL) (hrm : rm.cells = mc ∧ rm.slots = 6 * mc) (hthr : P.2.2.1 = [])
    (hhk : ∀ q ∈ hh, ∃ k, q.2.2.2 = ckx k)
    (hft : ∀ q ∈ P.1, FieldOK RL q.1 q.2.1 q.2.2)
    (hcs : ∀ q ∈ P.2.1, CallOK l Γ RL rm (if q.2.2.2.1 = 0 then .invokestatic q.1 else .invokevirtual q.1) q.2.2.2.1 q.2.1 q.2.2.1 q.2.2.2.2)
    (hlt : ∀ q ∈ P.2.2.2.1, Cond.constantLong RL q.1 (Int64.ofInt q.2) ∈ lwA)
    (hsem : SemH P hh cc maxL sp) : CnH l Γ y (wsyH y cc maxL hh) rm mc sp := by
  intro a σ K KX hsp
  obtain ⟨hnj, hlen, hG⟩ := hsem a σ K KX hsp
  refine vx_ofWH (cc := cc) (maxL := maxL) (ret := some .int) (hh := hh) hy rfl ?_
  intro p e s m args below meth c s₁ B hml hpc
  obtain ⟨rfl, hA, hW, hNC⟩ := hpc
  have hx := B.exec
  have hb := B.bytes
  have hr := B.returns
  have hts0 := atoms_spec (ws := wsyH y cc maxL hh) B.pre
  have hts : ∀ w ∈ lwA, w.before (a.map (cv Γ)).toArray s = true := fun w hw => hts0 w (List.mem_cons_of_mem _ hw)
  have htab : c.exceptionTable.toList = tableOf hh := vx_table (x := y) B (hts0 _ List.mem_cons_self)
  have hown2 : s.vm.findClass RL = some m.cls := hown ▸ findClass_of_methodNamed B.named
  have hbase : Γ.2.2.2 ≤ s.heap.size := hA.2.2.2.2.2
  have hl := lv_entry (a.map (cv Γ)) (n := maxL) (by rw [lg_ent a hnj]; exact hlen)
  rw [lg_entry_eq]
  rw [← asL_ent (n := maxL - (entL a).length) a 0 hnj] at hl
  refine hG (Gs p l e rm s m (a.map (cv Γ)).toArray below meth c (vx_MQ below (Qr Γ K) (Xr Γ KX) (a.map (cv Γ)).toArray s mc (6 * mc) (gA Γ)) Γ maxL 0 0) (sound (own := RL) hx hb hml hown2 hts hW hbase hft hcs hlt ?_ ?_ ?_ ?_ ?_ ?_ ?_ ?_) s.heap [] _ va_S.rf hA hl ?_
  · intro q hq
    rw [hthr] at hq
    exact (List.not_mem_nil hq).elim
  · rw [hmc]; exact ⟨by rw [hrm.1]; omega, by rw [hrm.2]; omega⟩
  · intro pc n ls σ k H locs la rest q9 ce hX hS hA1 hl1 hn1 hce hcv hcl
    obtain ⟨h, hh1, hg⟩ := hX
    have hw := hg q9 H locs la hS hA1 hl1 hn1
    have e1 : ([vr 21 q9] : List AV).map (cv Γ) = [.ref q9] := by
      show [Value.ref (Γ.2.2.1 21 q9)] = [.ref q9]
      rw [hW.2.2.2.2.1 q9]
    rw [e1] at hw
    exact hnd_ok hown2 hts hNC (lwF_alike (Vm.Alike.refl s.vm) (lwF_x n) (hW.2.2.2.2.2 _ (lwF_x n))) hce hcv hcl hh [] htab hhk (fun _ h => (List.not_mem_nil h).elim) hh1 hw
  · intro x σ k H locs la pc hd hk hrk1 hK hS hA1
    have hk : k ≤ mc := hmc ▸ hk
    refine W.widen (k := mc) (n := 6 * mc) (by omega) (by omega) (vx_ret ?_)
    have hq : ∀ t : State, t.heap = H → s.WarmedH t.vm → Qr Γ K (a.map (cv Γ)).toArray s (.returned (some (.int (Int32.ofInt x)))) t := fun t ht hw => ⟨⟨some (vi x), σ, rfl, hK, by rw [ht]; exact wa_moved hw.alike hA1⟩, hS.F ht⟩
    exact W.iret hx hb hr hq hS.2.2 hd
  · intro x σ k H locs la pc hd hk hrk1
    rw [hrk] at hrk1; exact absurd hrk1 (by decide)
  · intro x σ k H locs la pc hd hk hrk1
    rw [hrk] at hrk1; exact absurd hrk1 (by decide)
  · intro σ k H locs la pc hd hk hrk1
    rw [hrk] at hrk1; exact absurd hrk1 (by decide)
  · intro q hq; rw [hscr] at hq; cases hq
  · unfold ent; rw [List.length_append, List.length_replicate]; omega
def ftL9 : FtT := []
theorem ftL9_ok : ∀ q ∈ ftL9, FieldOK RL q.1 q.2.1 q.2.2 := fun _ h => (List.not_mem_nil h).elim
