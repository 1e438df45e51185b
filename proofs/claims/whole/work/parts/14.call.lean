section CG
variable {p : Program} {l : Launch} {e : Env} {R : Room} {s : State} {m : MethodId} {args : Array Value} {below : List Frame} {meth : Method} {c : Code} {H : Heap} {locs : List Loc} {cells slots : Nat} {Q : State → Prop}
theorem call_go {Γ : Ga} {K : Option AV → Sto → Prop} {KX : Nat → Sto → Prop} {a : Array Value} {mc ms pc : Nat} {la : Array Slot} {st0 rest : List Value} {H0 : Heap}
    (hr : vx_Run p l e R s m args below meth c H locs cells slots mc ms (F0 m pc la st0) rest (Qr Γ K a) (Xr Γ KX) (gA Γ)) (hS : va_S (gA Γ) H0 H locs)
    (kx : ∀ (n : Nat) (σ' : Sto) (ce : Cell) (q9 : Addr) (H1 : Heap) (locs1 : List Loc), KX n σ' → WA Γ σ' s H1 → va_S (gA Γ) H0 H1 locs1 → H1[q9]? = some ce → ce.vm = .none → s.vm.findClass (exn n) = some ce.cls → vx_W p l e R s m args below meth c H1 locs1 (cells + mc) (slots + ms) Q (F0 m pc la rest) q9)
    (kk : ∀ (r : Option AV) (σ' : Sto) (H1 : Heap) (locs1 : List Loc), K r σ' → WA Γ σ' s H1 → va_S (gA Γ) H0 H1 locs1 → W p l e R s m args below meth c H1 locs1 (cells + mc) (slots + ms) Q (F0 m (pc + 3) la ((cvo Γ r).toList ++ rest))) : W p l e R s m args below meth c H locs cells slots Q (F0 m pc la st0) := by
  intro T hT X
  rcases hr T hT X with ⟨v, st₀, t, T', L, h0, X', hL, e1, e2, ⟨⟨r, σ', hv, hp, hb⟩, hF⟩, st⟩ | ⟨q, st₀, t, T', L, E, ce, h0, X', hL, e1, e2, ⟨⟨n, σ', hE, hp, hb⟩, hF⟩, hce, hcv, hcl, st⟩
  · cases hv
    obtain ⟨k1, k2, k3⟩ := vx_keep h0 e1 hS (fun _ _ h => h) (fun _ h => h) hL hF
    have hal : s.vm.Alike t.vm := by rw [← e2]; exact X'.warmed.alike
    obtain ⟨t2, a1, b1⟩ := kk r σ' T'.heap (locs ++ L) hp (by rw [e1]; exact wa_moved hal.symm hb) k3 T' rfl X'
    exact ⟨t2, st t2 a1, b1⟩
  · subst hE
    obtain ⟨k1, k2, k3⟩ := vx_keep h0 e1 hS (fun _ _ h => h) (fun _ h => h) hL hF
    have hal : s.vm.Alike t.vm := by rw [← e2]; exact X'.warmed.alike
    obtain ⟨t2, a1, b1⟩ := kx n σ' ce q T'.heap (locs ++ L) hp (by rw [e1]; exact wa_moved hal.symm hb) k3 (by rw [e1]; exact hce) hcv hcl T' rfl X'
    exact ⟨t2, st.trans a1, b1⟩
end CG
/-- a call in the class own, at the pool's place that i names, does what sp says -/
def CallOK (l : Launch) (Γ : Ga) (own : String) (R : Room) (i : Instr) (rc n mc : Nat) (sp : Spec) : Prop :=
  ∀ (p : Program) (e : Env) (s : State) (m : MethodId) (args : Array Value) (below : List Frame) (meth : Method) (c : Code) (H : Heap) (locs : List Loc) (cells slots : Nat) (cc : ByteArray) (nL pc : Nat) (la : Array Slot) (a : List AV) (rest : List Value) (σ : Sto) (K : Option AV → Sto → Prop) (KX : Nat → Sto → Prop),
    CallFix p m c cc nL s args lwA own → a.length = n → rcv rc a → la.size = nL → (rest.map fun v => v.category).sum ≤ 8 → decode cc pc = .ok (i, 3) → cells + mc ≤ R.cells → slots + 6 * mc ≤ R.slots → WA Γ σ s H → WS Γ s → sp a σ K KX →
    vx_Run p l e R s m args below meth c H locs cells slots mc (6 * mc) (F0 m pc la ((a.map (cv Γ)).reverse ++ rest)) rest (Qr Γ K (a.map (cv Γ)).toArray) (Xr Γ KX) (gA Γ)
theorem pr_blind {Γ : Ga} {a : List AV} {σ : Sto} : FrameBlind (Pr Γ a σ) := by
  intro v U g mk h
  obtain ⟨h1, h2, h3⟩ := h
  exact ⟨h1, wa_moved (t := U.calling g mk v) (Vm.Alike.refl U.vm) h2, ws_same (s := U) (t := U.calling g mk v) rfl h3⟩
theorem pr_at {Γ : Ga} {a : List AV} {σ : Sto} {s U : State} {H : Heap} (hA : WA Γ σ s H) (hW : WS Γ s) (hU : U.heap = H) (hw : s.WarmedH U.vm) : Pr Γ a σ (a.map (cv Γ)).toArray U :=
  ⟨rfl, by rw [hU]; exact wa_moved hw.alike hA, ws_warm hw hW⟩
theorem callV_of {l : Launch} {Γ : Ga} {own : String} {R rm : Room} {idx n mc rc maxL : Nat} {y : MethodName} {cc0 : ByteArray} {ret : Option FieldType} {sp : Spec} (hC : Cn l Γ y (wsy y cc0 maxL ret) rm mc sp) (hrc : rm.cells = mc) (hrs : rm.slots = 6 * mc)
    (hw : ∀ w ∈ ([.methodLink own idx y, .instanceMethod y, .selects (fcl rc).1 y y, .initialized (fcl rc).1, .code y cc0 maxL ret] : List Cond), w ∈ lwA)
    (hd : y.cls = (fcl rc).1 ∧ y.cls ≠ "java/lang/invoke/MethodHandle" ∧ y.cls ≠ "java/lang/invoke/VarHandle" ∧ (parseMethodDescriptor y.desc).map (fun d => d.parameters.length) = some n) (hR : rm.frames + 1 ≤ R.frames ∧ 8 + (maxL + 11) + rm.locals ≤ R.locals) :
    CallOK l Γ own R (.invokevirtual idx) (rc + 1) (n + 1) mc sp := by
  intro p e s m args below meth c H locs cells slots cc nL pc la a rest σ K KX hfix hlen hrcv hsz hcat hdec hc1 hc2 hA hW hsp
  obtain ⟨b, As, rfl⟩ : ∃ b As, a = b :: As := by
    cases a with
    | nil => cases hlen
    | cons b As => exact ⟨b, As, rfl⟩
  obtain ⟨i, rfl, hi, h9⟩ : ∃ i, b = vr rc i ∧ i < cnt rc ∧ rc < 9 := by
    rcases hrcv with h | h
    · cases h
    · rcases b with x | x | x | x | x <;> first | exact absurd h id | skip
      obtain ⟨h1, h2, h3⟩ := h
      have : x.1 = rc := by omega
      subst this
      exact ⟨x.2, rfl, h2, h3⟩
  obtain ⟨k0, hk0⟩ := mem_dom (c := rc) (by omega) hi
  have hcel : ∃ cellB : Cell, H[Γ.2.2.1 rc i]? = some cellB ∧ cellB.vm.isStatics = false ∧ s.vm.findClass (fcl rc).1 = some cellB.cls := by
    have hat := hA.1 k0 _ (wsl_get Γ σ hk0)
    rw [cel_o Γ σ i h9] at hat
    obtain ⟨r, h1, cell, q1, q2, q3, -⟩ := hat
    have hcr := fcl_at h9
    have hr : r = ((fcl rc).1, (fcl rc).2.1, nf rc) := Option.some.inj (h1.symm.trans hcr)
    subst hr
    refine ⟨cell, q1, by rw [q3]; rfl, ?_⟩
    rw [q2]
    exact (hA.2.2.1.1 rc _ hcr).2.1
  have hT : GoodIn lwA (wsV own idx (fcl rc).1 y (wsy y cc0 maxL ret)) := by
    refine goodIn_lwA fun w h => ?_
    unfold wsV wsy at h
    rcases List.mem_append.mp h with h | h
    · exact hw w (List.mem_append_left [Cond.code y cc0 maxL ret] h)
    · rcases List.mem_cons.mp h with h | h
      · exact hw w (by rw [h]; simp)
      · exact h
  exact vx_runV (Ts := lwA) (As := As.map (cv Γ)) (rest := rest) hfix (hC _ σ K KX hsp) (cwV n hfix.2.2.2.2 hT rfl hrc hrs hd hR) ⟨pr_blind, hcel, fun U hU hw => pr_at hA hW hU hw⟩ rfl (by simpa using hlen) hsz (by simp [cv, vr]) (lv_room hcat) hdec ⟨hc1, hc2⟩
theorem callS_of {l : Launch} {Γ : Ga} {own : String} {R rm : Room} {idx n mc maxL : Nat} {y : MethodName} {cc0 : ByteArray} {ret : Option FieldType} {sp : Spec} (hC : Cn l Γ y (wsy y cc0 maxL ret) rm mc sp) (hrc : rm.cells = mc) (hrs : rm.slots = 6 * mc)
    (hw : ∀ w ∈ ([.methodLink own idx y, .static y, .initialized y.cls, .code y cc0 maxL ret] : List Cond), w ∈ lwA)
    (hd : y.cls ≠ "java/lang/invoke/MethodHandle" ∧ y.cls ≠ "java/lang/invoke/VarHandle" ∧ (parseMethodDescriptor y.desc).map (fun d => d.parameters.length) = some n) (hR : rm.frames + 1 ≤ R.frames ∧ 8 + (maxL + 11) + rm.locals ≤ R.locals) :
    CallOK l Γ own R (.invokestatic idx) 0 n mc sp := by
  intro p e s m args below meth c H locs cells slots cc nL pc la a rest σ K KX hfix hlen hrcv hsz hcat hdec hc1 hc2 hA hW hsp
  have hT : GoodIn lwA (va_wsS own idx y (wsy y cc0 maxL ret)) := by
    refine goodIn_lwA fun w h => ?_
    unfold va_wsS wsy at h
    rcases List.mem_append.mp h with h | h
    · exact hw w (List.mem_append_left [Cond.code y cc0 maxL ret] h)
    · rcases List.mem_cons.mp h with h | h
      · exact hw w (by rw [h]; simp)
      · exact h
  exact vx_runS (Ts := lwA) (As := a.map (cv Γ)) (rest := rest) hfix (hC _ σ K KX hsp) (va_cwS n hfix.2.2.2.2 hT rfl hrc hrs hd hR) ⟨pr_blind, fun U hU hw => pr_at hA hW hU hw⟩ rfl (by simpa using hlen) hsz rfl (lv_room hcat) hdec ⟨hc1, hc2⟩
