theorem ra_u {U : State} {x y : ClassId} {ty : FieldType} (hx : va_RA U x ty) (hy : va_RA U y ty) : x = y := by
  cases ty with
  | object C =>
    obtain ⟨_, _, _, _, _, h1⟩ := hx
    obtain ⟨_, _, _, _, _, h2⟩ := hy
    exact Option.some.inj (h1.symm.trans h2)
  | _ => exact Option.some.inj (Eq.trans (Eq.symm hx) hy)
theorem tyl5 {Γ : Ga} {q : ClassId × FieldType} : (tyl Γ ++ [q])[5]? = some q := rfl
/-- words that are not kept by the kit's own law of words: carried along -/
def GN (U : State) : Prop := va_AO (fcl 2).1 U ∧ va_AO (fcl 1).1 U ∧ va_Nw (.methodLinkNest RX2 17 yX0_init "SpiralWords") U ∧ va_Nw (.methodLinkNest RX4 20 yX0_init "SpiralWords") U ∧ va_Nw (.methodLinkNest RX4 27 yX5_init "SpiralWords") U
theorem gn_same {s t : State} (h : t.vm = s.vm) (w : GN s) : GN t :=
  ⟨va_AO.moved (by rw [h]; exact Vm.Alike.refl _) w.1, va_AO.moved (by rw [h]; exact Vm.Alike.refl _) w.2.1, va_Nw.same rfl h.symm w.2.2.1, va_Nw.same rfl h.symm w.2.2.2.1, va_Nw.same rfl h.symm w.2.2.2.2⟩
theorem gn_warm {s t : State} (h : s.WarmedH t.vm) (w : GN s) : GN t :=
  ⟨va_AO.moved h.alike w.1, va_AO.moved h.alike w.2.1, va_Nw.warmM h w.2.2.1, va_Nw.warmM h w.2.2.2.1, va_Nw.warmM h w.2.2.2.2⟩
/-- a constructor's contract: the receiver is the k0-th cell, fresh; N cells come; sh says where what stands -/
def CC (l : Launch) (y : MethodName) (cc0 : ByteArray) (maxL : Nat) (rm : Room) (mc ms N ci : Nat) (fs0 : List Value) (sh : Ga → (Nat → Nat) → (Nat → va_E) → Nat → Nat → Prop) : Prop :=
  ∀ (Γ : Ga) (a : Nat → Nat) (E : Nat → va_E) (n k0 : Nat), k0 < n → E k0 = .inr (ci, fs0) → Met l y (wsy y cc0 maxL none) rm (va_Pc [.ref (a k0)] (fun U => Γ.2.2.2 ≤ U.heap.size ∧ GN U ∧ GW Γ a E n U U.heap))
    (va_Qv (S := (Nat → Nat) × (Nat → va_E)) (fun u => (∀ j, j < n → u.1 j = a j) ∧ (∀ j, j < n → j ≠ k0 → u.2 j = E j) ∧ sh Γ u.1 u.2 k0 n) (fun u U => GW Γ u.1 u.2 (n + N) U U.heap) (gA Γ)) mc ms (gA Γ)
section GT
variable {p : Program} {l : Launch} {e : Env} {R : Room} {s : State} {m : MethodId} {args : Array Value} {below : List Frame} {meth : Method} {c : Code} {H H0 : Heap} {locs : List Loc} {cells slots : Nat} {Q : State → Prop} {cc : ByteArray} {pc : Nat} {ls : Array Slot} {rest : List Value} {Γ : Ga} {a : Nat → Nat} {E : Nat → va_E} {n : Nat} {own : String}
theorem t_new (hx : p.tables.exec = Jvm.exec) (hb : c.code = cc) (hts : ∀ w ∈ lwA, w.before args s = true) (hown : s.vm.findClass own = some m.cls) (hG : GW Γ a E n s H) (hS : va_S (gA Γ) H0 H locs) (h0 : Γ.2.2.2 ≤ H0.size) {ci index : Nat} (hci : ci < 9)
    (hw : ∀ w ∈ ([.classLink own index (fcl ci).1, .instantiable (fcl ci).1 (nf ci), .initialized (fcl ci).1] : List Cond), w ∈ lwA) {fs : List Value} (hfs : ∀ j, j < nf ci → defaultValue (fty ci j) = vp_V fs j) {n1 c1 s1 : Nat} (hn1 : n + 1 = n1) (hc : cells + 1 = c1) (hs : slots + nf ci = s1) (hc1 : c1 ≤ R.cells) (hc2 : s1 ≤ R.slots) (hdg : decode cc pc = .ok (.new index, 3))
    (kk : ∀ (q : Nat) (a1 : Nat → Nat) (E1 : Nat → va_E) (H1 : Heap), (∀ j, j < n → a1 j = a j ∧ E1 j = E j) → a1 n = q → E1 n = .inr (ci, fs) → GW Γ a1 E1 n1 s H1 → va_S (gA Γ) H0 H1 locs → W p l e R s m args below meth c H1 locs c1 s1 Q (F0 m (pc + 3) ls (.ref q :: rest))) : W p l e R s m args below meth c H locs cells slots Q (F0 m pc ls rest) := by
  subst hn1; subst hc; subst hs
  exact g_new hx hb hts hown hG hS h0 hci hw hfs hc1 hc2 hdg (fun q H1 hG1 hS1 => kk q _ _ H1 (fun j hj => ⟨fup_n (by omega), fup_n (by omega)⟩) fup_e fup_e hG1 hS1)
theorem t_put (hx : p.tables.exec = Jvm.exec) (hb : c.code = cc) (hts : ∀ w ∈ lwA, w.before args s = true) (hown : s.vm.findClass own = some m.cls) (hG : GW Γ a E n s H) (hS : va_S (gA Γ) H0 H locs) {ci k j idx r : Nat} {fs fs1 : List Value} {v : Value} (hci : ci < 9) (hk : k < n) (hr : a k = r) (he : E k = .inr (ci, fs)) (hj : j < nf ci) (hl : Cond.fieldLink own idx ((fcl ci).2.1 j).1 ((fcl ci).2.1 j).2.1 ((fcl ci).2.1 j).2.2.1 ∈ lwA) (hfin : ((fcl ci).2.1 j).2.2.2 = false) (hn : narrow (fty ci j) v = v) (hfit : fits (fty ci j) v = true) (hlen : j < fs.length) (hset : fs.set j v = fs1) (hdg : decode cc pc = .ok (.putfield idx, 3))
    (kk : ∀ (E1 : Nat → va_E) (H1 : Heap) (locs1 : List Loc), (∀ j, j ≠ k → E1 j = E j) → E1 k = .inr (ci, fs1) → GW Γ a E1 n s H1 → va_S (gA Γ) H0 H1 locs1 → W p l e R s m args below meth c H1 locs1 cells slots Q (F0 m (pc + 3) ls rest)) : W p l e R s m args below meth c H locs cells slots Q (F0 m pc ls (v :: .ref r :: rest)) := by
  subst hr; subst hset
  exact g_put hx hb hts hown hG hS hci hk he hj hl hfin hn hfit hlen hdg (fun H1 locs1 hG1 hS1 => kk _ H1 locs1 (fun j hj => fup_n hj) fup_e hG1 hS1)
theorem t_putF (hx : p.tables.exec = Jvm.exec) (hb : c.code = cc) (hts : ∀ w ∈ lwA, w.before args s = true) (hown : s.vm.findClass own = some m.cls) (hG : GW Γ a E n s H) (hS : va_S (gA Γ) H0 H locs) {ci k j idx r : Nat} {fs fs1 : List Value} {v : Value} (hci : ci < 9) (hk : k < n) (hr : a k = r) (he : E k = .inr (ci, fs)) (hj : j < nf ci) (hl : Cond.fieldLink own idx ((fcl ci).2.1 j).1 ((fcl ci).2.1 j).2.1 ((fcl ci).2.1 j).2.2.1 ∈ lwA) (hfin : ((fcl ci).2.1 j).2.2.2 = true) (hin : meth.name = "<init>") (hdecl : ((fcl ci).2.1 j).1 = own) (hn : narrow (fty ci j) v = v) (hfit : fits (fty ci j) v = true) (hlen : j < fs.length) (hset : fs.set j v = fs1) (hdg : decode cc pc = .ok (.putfield idx, 3))
    (kk : ∀ (E1 : Nat → va_E) (H1 : Heap) (locs1 : List Loc), (∀ j, j ≠ k → E1 j = E j) → E1 k = .inr (ci, fs1) → GW Γ a E1 n s H1 → va_S (gA Γ) H0 H1 locs1 → W p l e R s m args below meth c H1 locs1 cells slots Q (F0 m (pc + 3) ls rest)) : W p l e R s m args below meth c H locs cells slots Q (F0 m pc ls (v :: .ref r :: rest)) := by
  subst hr; subst hset
  exact g_putF hx hb hts hown hG hS hci hk he hj hl hfin hin hdecl hn hfit hlen hdg (fun H1 locs1 hG1 hS1 => kk _ H1 locs1 (fun j hj => fup_n hj) fup_e hG1 hS1)
theorem t_get (hx : p.tables.exec = Jvm.exec) (hb : c.code = cc) (hts : ∀ w ∈ lwA, w.before args s = true) (hown : s.vm.findClass own = some m.cls) (hG : GW Γ a E n s H) {ci k j idx r : Nat} {fs : List Value} {v : Value} (hci : ci < 9) (hk : k < n) (hr : a k = r) (he : E k = .inr (ci, fs)) (hj : j < nf ci) (hl : Cond.fieldLink own idx ((fcl ci).2.1 j).1 ((fcl ci).2.1 j).2.1 ((fcl ci).2.1 j).2.2.1 ∈ lwA) (hv : fs[j]? = some v) (hdg : decode cc pc = .ok (.getfield idx, 3))
    (kk : W p l e R s m args below meth c H locs cells slots Q (F0 m (pc + 3) ls (v :: rest))) : W p l e R s m args below meth c H locs cells slots Q (F0 m pc ls (.ref r :: rest)) := by
  subst hr
  exact va_get hx hb hts (fcl_in hci) hown hG.2.2 hG.1 k ((wl_get hk).trans (by rw [he])) (fcl_at hci) j hj (hts _ hl) (fun _ h => h) hv hdg kk
theorem t_newa (hx : p.tables.exec = Jvm.exec) (hb : c.code = cc) (hts : ∀ w ∈ lwA, w.before args s = true) (hG : GW Γ a E n s H) (hS : va_S (gA Γ) H0 H locs) (h0 : Γ.2.2.2 ≤ H0.size) (atype : ArrayType) (ty : FieldType) (t : Nat) {cT : ClassId} (hty : newarray.typeOf atype = ty) (ht : (tyl Γ)[t]? = some (cT, ty)) (hw : Cond.arrayClass ty ∈ lwA) {x : Int32} {N' : Nat} {a0 : vp_A} (ha : ∀ cA : ClassId, vp_cell cA a0 = arrV cA N' (fun _ => defaultValue ty)) (hx0 : ¬ x < 0) (hN : x.toNatClampNeg = N') (hbytes : N' * componentBytes ty ≤ 536870912) {n1 c1 s1 : Nat} (hn1 : n + 1 = n1) (hc : cells + 1 = c1) (hs : slots + N' = s1) (hc1 : c1 ≤ R.cells) (hc2 : s1 ≤ R.slots) (hdg : decode cc pc = .ok (.newarray atype, 2))
    (kk : ∀ (q : Nat) (a1 : Nat → Nat) (E1 : Nat → va_E) (H1 : Heap), (∀ j, j < n → a1 j = a j ∧ E1 j = E j) → a1 n = q → E1 n = .inl (cT, a0) → GW Γ a1 E1 n1 s H1 → va_S (gA Γ) H0 H1 locs → W p l e R s m args below meth c H1 locs c1 s1 Q (F0 m (pc + 2) ls (.ref q :: rest))) : W p l e R s m args below meth c H locs cells slots Q (F0 m pc ls (.int x :: rest)) := by
  subst hn1; subst hc; subst hs
  refine va_newa hx hb (by rw [hty]; exact hts _ hw) hty hG.2.2 hG.1 hG.2.1 hS (fun q h => Nat.le_trans h0 h) ha hx0 hN hbytes hc1 hc2 hdg (fun q cA H1 hK hP hD hS1 => ?_)
  have hcA : cA = cT := ra_u (hK.2 5 _ tyl5).2 (hG.2.2.2 t _ ht).2
  subst hcA
  rw [wl_push] at hP hD
  exact kk q _ _ H1 (fun j hj => ⟨fup_n (by omega), fup_n (by omega)⟩) fup_e fup_e ⟨hP, hD, hG.2.2⟩ hS1
theorem t_newq (hx : p.tables.exec = Jvm.exec) (hb : c.code = cc) (hts : ∀ w ∈ lwA, w.before args s = true) (hown : s.vm.findClass own = some m.cls) (hG : GW Γ a E n s H) (hS : va_S (gA Γ) H0 H locs) (h0 : Γ.2.2.2 ≤ H0.size) (C : String) (t : Nat) {index : Nat} {cT : ClassId} (ht : (tyl Γ)[t]? = some (cT, .object C)) (hw : Cond.classLink own index C ∈ lwA) (hw2 : va_AO C s) {x : Int32} {N' : Nat} (hx0 : ¬ x < 0) (hN : x.toNatClampNeg = N') (hbytes : N' * 4 ≤ 536870912) {n1 c1 s1 : Nat} (hn1 : n + 1 = n1) (hc : cells + 1 = c1) (hs : slots + N' = s1) (hc1 : c1 ≤ R.cells) (hc2 : s1 ≤ R.slots) (hdg : decode cc pc = .ok (.anewarray index, 3))
    (kk : ∀ (q : Nat) (a1 : Nat → Nat) (E1 : Nat → va_E) (H1 : Heap), (∀ j, j < n → a1 j = a j ∧ E1 j = E j) → a1 n = q → E1 n = .inl (cT, N', .inr (.inr (.inr (.inr (fun _ => none))))) → GW Γ a1 E1 n1 s H1 → va_S (gA Γ) H0 H1 locs → W p l e R s m args below meth c H1 locs c1 s1 Q (F0 m (pc + 3) ls (.ref q :: rest))) : W p l e R s m args below meth c H locs cells slots Q (F0 m pc ls (.int x :: rest)) := by
  subst hn1; subst hc; subst hs
  refine va_newq hx hb hown (hts _ hw) hw2 hG.2.2 hG.1 hG.2.1 hS (fun q h => Nat.le_trans h0 h) hx0 hN hbytes hc1 hc2 hdg (fun q cA H1 hK hP hD hS1 => ?_)
  have hcA : cA = cT := ra_u (hK.2 5 _ tyl5).2 (hG.2.2.2 t _ ht).2
  subst hcA
  rw [wl_push] at hP hD
  exact kk q _ _ H1 (fun j hj => ⟨fup_n (by omega), fup_n (by omega)⟩) fup_e fup_e ⟨hP, hD, hG.2.2⟩ hS1
theorem t_iast (hx : p.tables.exec = Jvm.exec) (hb : c.code = cc) (hG : GW Γ a E n s H) (hS : va_S (gA Γ) H0 H locs) {k r N : Nat} {f : Nat → Int32} (hk : k < n) (hr : a k = r) (he : E k = .inl (Γ.2.1 0, N, .inl f)) {i x : Int32} {j : Nat} (hin : vp_in i N) (hj : i.toNatClampNeg = j) (hdg : decode cc pc = .ok (.iastore, 1))
    (kk : ∀ (E1 : Nat → va_E) (H1 : Heap) (locs1 : List Loc), (∀ j, j ≠ k → E1 j = E j) → E1 k = .inl (Γ.2.1 0, N, .inl (upd f j x)) → GW Γ a E1 n s H1 → va_S (gA Γ) H0 H1 locs1 → W p l e R s m args below meth c H1 locs1 cells slots Q (F0 m (pc + 1) ls rest)) : W p l e R s m args below meth c H locs cells slots Q (F0 m pc ls (.int x :: .int i :: .ref r :: rest)) := by
  subst hr; subst hj
  refine va_iast hx hb hG.2.2 hG.1 hG.2.1 hS k 0 ((wl_get hk).trans (by rw [he])) rfl hin hdg (fun H1 locs1 hP hD hS1 => ?_)
  rw [wl_set hk] at hP hD
  exact kk _ H1 locs1 (fun j hj => fup_n hj) fup_e ⟨hP, hD, hG.2.2⟩ hS1
theorem t_astq (hx : p.tables.exec = Jvm.exec) (hb : c.code = cc) (hG : GW Γ a E n s H) (hS : va_S (gA Γ) H0 H locs) (t : Nat) {ci k kv r q N : Nat} {cT : ClassId} {f : Nat → Option Nat} {vs : List Value} (hci : ci < 9) (ht : (tyl Γ)[t]? = some (cT, .object (fcl ci).1)) (hk : k < n) (hr : a k = r) (he : E k = .inl (cT, N, .inr (.inr (.inr (.inr f))))) (hkv : kv < n) (hq : a kv = q) (hv : E kv = .inr (ci, vs)) {i : Int32} {j : Nat} (hin : vp_in i N) (hj : i.toNatClampNeg = j) (hdg : decode cc pc = .ok (.aastore, 1))
    (kk : ∀ (E1 : Nat → va_E) (H1 : Heap) (locs1 : List Loc), (∀ j, j ≠ k → E1 j = E j) → E1 k = .inl (cT, N, .inr (.inr (.inr (.inr (va_up f j (some q)))))) → GW Γ a E1 n s H1 → va_S (gA Γ) H0 H1 locs1 → W p l e R s m args below meth c H1 locs1 cells slots Q (F0 m (pc + 1) ls rest)) : W p l e R s m args below meth c H locs cells slots Q (F0 m pc ls (.ref q :: .int i :: .ref r :: rest)) := by
  subst hr; subst hj; subst hq
  refine va_astq hx hb hG.2.2 hG.1 hG.2.1 hS k t kv ci (r := ((fcl ci).1, (fcl ci).2.1, nf ci)) ((wl_get hk).trans (by rw [he])) ht ((wl_get hkv).trans (by rw [hv])) (fcl_at hci) hin hdg (fun H1 locs1 hP hD hS1 => ?_)
  rw [wl_set hk] at hP hD
  exact kk _ H1 locs1 (fun j hj => fup_n hj) fup_e ⟨hP, hD, hG.2.2⟩ hS1
theorem cc_blind {Γ : Ga} {a : Nat → Nat} {E : Nat → va_E} {n : Nat} {av : List Value} : FrameBlind (va_Pc av (fun U => Γ.2.2.2 ≤ U.heap.size ∧ GN U ∧ GW Γ a E n U U.heap)) := by
  intro v U g mk h
  obtain ⟨h1, h2, h4, h3⟩ := h
  exact ⟨h1, h2, gn_same (s := U) (t := U.calling g mk v) rfl h4, gw_moved (t := U.calling g mk v) (Vm.Alike.refl U.vm) h3⟩
theorem cc_good {y : MethodName} {cc0 : ByteArray} {maxL : Nat} (h : Cond.code y cc0 maxL none ∈ lwA) : GoodIn lwA (wsy y cc0 maxL none) := by
  refine goodIn_lwA fun w hw => ?_
  rcases List.mem_cons.mp hw with hw | hw
  · rw [hw]; exact h
  · exact hw
theorem t_call {nL idx maxL mc ms N ci : Nat} {y : MethodName} {cc0 : ByteArray} {rm : Room} {fs0 : List Value} {sh : Ga → (Nat → Nat) → (Nat → va_E) → Nat → Nat → Prop} (hC : CC l y cc0 maxL rm mc ms N ci fs0 sh) (hx : p.tables.exec = Jvm.exec) (hb : c.code = cc) (hml : c.maxLocals = nL) (hls : ls.size = nL) (hts : ∀ w ∈ lwA, w.before args s = true) (hown : s.vm.findClass own = some m.cls) (hG : GW Γ a E n s H) (hS : va_S (gA Γ) H0 H locs) (h0 : Γ.2.2.2 ≤ H0.size) (hN : GN s) (hrc : rm.cells = mc) (hrs : rm.slots = ms) (hy1 : y.name = "<init>")
    (hw1 : Cond.methodLink own idx y ∈ lwA) (hw2 : Cond.instanceMethod y ∈ lwA) (hw3 : Cond.initialized y.cls ∈ lwA) (hw4 : Cond.code y cc0 maxL none ∈ lwA)
    (hd : y.cls ≠ "java/lang/invoke/MethodHandle" ∧ y.cls ≠ "java/lang/invoke/VarHandle" ∧ (parseMethodDescriptor y.desc).map (fun d => d.parameters.length) = some 0) (hR : rm.frames + 1 ≤ R.frames ∧ 8 + (maxL + 11) + rm.locals ≤ R.locals)
    {k r n1 c1 s1 : Nat} (hk : k < n) (hr : a k = r) (he : E k = .inr (ci, fs0)) (hcat : (rest.map fun v => v.category).sum ≤ 8) (hdg : decode cc pc = .ok (.invokespecial idx, 3)) (hn1 : n + N = n1) (hc : cells + mc = c1) (hs : slots + ms = s1) (hc1 : c1 ≤ R.cells) (hc2 : s1 ≤ R.slots)
    (kk : ∀ (a1 : Nat → Nat) (E1 : Nat → va_E) (H1 : Heap) (locs1 : List Loc), (∀ j, j < n → a1 j = a j) → (∀ j, j < n → j ≠ k → E1 j = E j) → sh Γ a1 E1 k n → GW Γ a1 E1 n1 s H1 → va_S (gA Γ) H0 H1 locs1 → W p l e R s m args below meth c H1 locs1 c1 s1 Q (F0 m (pc + 3) ls rest)) : W p l e R s m args below meth c H locs cells slots Q (F0 m pc ls (.ref r :: rest)) := by
  subst hr; subst hn1; subst hc; subst hs
  refine va_callv (va_runI (As := []) (rest := rest) ⟨hx, hb, hml, hown, hts⟩ (hC Γ a E n k hk he) (cwI 0 hts (cc_good hw4) rfl hrc hrs (hts _ hw3) (hts _ hw1) (hts _ hw2) hy1 hd hR) ⟨cc_blind, fun U hU hW => ⟨rfl, by rw [hU]; exact Nat.le_trans h0 hS.1, gn_warm hW hN, by rw [hU]; exact gw_moved hW.alike hG⟩⟩ rfl rfl hls rfl (lv_room hcat) hdg ⟨hc1, hc2⟩) hS (fun q _ h => h) (fun q h => h) (fun u t H1 locs1 ht hvm h5 hB hz1 hk1 hS1 => ?_)
  rw [ht] at hB
  exact kk u.1 u.2 H1 locs1 h5.1 h5.2.1 h5.2.2 (gw_moved hvm.symm hB) hS1
theorem t_clN {nL idx maxL mc ms N ci : Nat} {y : MethodName} {cc0 : ByteArray} {rm : Room} {fs0 : List Value} {sh : Ga → (Nat → Nat) → (Nat → va_E) → Nat → Nat → Prop} (host : String) (hC : CC l y cc0 maxL rm mc ms N ci fs0 sh) (hx : p.tables.exec = Jvm.exec) (hb : c.code = cc) (hml : c.maxLocals = nL) (hls : ls.size = nL) (hts : ∀ w ∈ lwA, w.before args s = true) (hown : s.vm.findClass own = some m.cls) (hG : GW Γ a E n s H) (hS : va_S (gA Γ) H0 H locs) (h0 : Γ.2.2.2 ≤ H0.size) (hN : GN s) (hrc : rm.cells = mc) (hrs : rm.slots = ms) (hy1 : y.name = "<init>")
    (hw1 : va_Nw (.methodLinkNest own idx y host) s) (hw2 : Cond.instanceMethod y ∈ lwA) (hw3 : Cond.initialized y.cls ∈ lwA) (hw4 : Cond.code y cc0 maxL none ∈ lwA)
    (hd : y.cls ≠ "java/lang/invoke/MethodHandle" ∧ y.cls ≠ "java/lang/invoke/VarHandle" ∧ (parseMethodDescriptor y.desc).map (fun d => d.parameters.length) = some 0) (hR : rm.frames + 1 ≤ R.frames ∧ 8 + (maxL + 11) + rm.locals ≤ R.locals)
    {k r n1 c1 s1 : Nat} (hk : k < n) (hr : a k = r) (he : E k = .inr (ci, fs0)) (hcat : (rest.map fun v => v.category).sum ≤ 8) (hdg : decode cc pc = .ok (.invokespecial idx, 3)) (hn1 : n + N = n1) (hc : cells + mc = c1) (hs : slots + ms = s1) (hc1 : c1 ≤ R.cells) (hc2 : s1 ≤ R.slots)
    (kk : ∀ (a1 : Nat → Nat) (E1 : Nat → va_E) (H1 : Heap) (locs1 : List Loc), (∀ j, j < n → a1 j = a j) → (∀ j, j < n → j ≠ k → E1 j = E j) → sh Γ a1 E1 k n → GW Γ a1 E1 n1 s H1 → va_S (gA Γ) H0 H1 locs1 → W p l e R s m args below meth c H1 locs1 c1 s1 Q (F0 m (pc + 3) ls rest)) : W p l e R s m args below meth c H locs cells slots Q (F0 m pc ls (.ref r :: rest)) := by
  subst hr; subst hn1; subst hc; subst hs
  refine va_callv (va_runIN (As := []) (rest := rest) ⟨hx, hb, hml, hown, hts⟩ (hC Γ a E n k hk he) ⟨va_cnB 0 hts (cc_good hw4) rfl hrc hrs hw1 (hts _ hw3) hd hR, hy1, hts _ hw2⟩ ⟨cc_blind, fun U hU hW => ⟨rfl, by rw [hU]; exact Nat.le_trans h0 hS.1, gn_warm hW hN, by rw [hU]; exact gw_moved hW.alike hG⟩⟩ rfl rfl hls rfl (lv_room hcat) hdg ⟨hc1, hc2⟩) hS (fun q _ h => h) (fun q h => h) (fun u t H1 locs1 ht hvm h5 hB hz1 hk1 hS1 => ?_)
  rw [ht] at hB
  exact kk u.1 u.2 H1 locs1 h5.1 h5.2.1 h5.2.2 (gw_moved hvm.symm hB) hS1
end GT
